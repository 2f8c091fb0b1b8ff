/-! plan and planned -/
abbrev mpA : List Nat := [77, 78, 83, 84, 85, 86, 87, 88, 90, 91, 92, 93]
abbrev mpO : List (Nat × Int) := [(51, 56), (51, 60)]
theorem zfr_up {A : List Nat} {O : List (Nat × Int)} {S T : HS} {k : Nat} {i v : Int} (h : zFr A O S T) (hk : k ∈ A) : zFr A O S (up T k i v) := by
  intro k' i' a b
  have ne : k' ≠ k := fun e => a (by rw [e]; exact hk)
  rw [up_cell _ ne]
  exact h k' i' a b
theorem zfr_upO {A : List Nat} {O : List (Nat × Int)} {S T : HS} {k : Nat} {i v : Int} (h : zFr A O S T) (hk : (k, i) ∈ O) : zFr A O S (up T k i v) := by
  intro k' i' a b
  rw [up_at, if_neg]
  · exact h k' i' a b
  · rintro ⟨rfl, rfl⟩
    exact b hk
section P4
variable {S : HS}
theorem m_findPlan (hI : iAll S) : zP (M_X12_findPlan S) (fun _ T => zFr mpA mpO S T ∧ T 51 56 = pNm S ∧ (∀ j : Int, 0 ≤ j → j < pNm S → T 90 j = pRw S (S 7 11).toNat j) ∧ gB (pCo (pMi S) (S 34)) (S 34) (pNm S) (fun N => N < pPw (pNm S)) (T 51 60) (T 92) (-1)) := by
  have hR := hI.2.2.2.2.1.c
  have h24 := hR.1
  have r27 := hI.2.2.2.2.1.1.1
  have iM := hI.2.2.2.2.2.1.1
  have iC := hI.2.2.2.2.2.2.2.2.1
  have pr := pSz_r (S := S) (S 7 11).toNat
  have pn : (pNm S : Int) = pSz S (S 7 11).toNat := Int.toNat_of_nonneg pr.1
  have hp8 : pNm S ≤ 8 := by omega
  have pw := pPw_r (pNm S) hp8
  have hmi : ∀ j : Int, 0 ≤ j → j < pNm S → 0 ≤ pMi S j ∧ pMi S j ≤ 4000 := fun j j0 j1 => by
    have := pRw_r (S := S) (S 7 11).toNat j j0 (by omega)
    exact gMi_b hI.s this.1 (by omega)
  have hsp : ∀ h : Int, 0 ≤ h → h < 3 → 0 ≤ S 34 h ∧ S 34 h ≤ 3 := fun h h0 h3 => (iC.1 h h0 h3).2
  have hcn : ∀ k h : Int, 0 ≤ pCo (pMi S) (S 34) k h := fun k h => pCo_r
  have htm : ∀ N : Int, 0 ≤ pTm (pCo (pMi S) (S 34)) (pNm S) N ∧ pTm (pCo (pMi S) (S 34)) (pNm S) N ≤ 32000 := by
    intro N
    have u : ∀ h : Int, 0 ≤ h → h < 3 → 0 ≤ pLo (pCo (pMi S) (S 34)) h (pNm S) N ∧ pLo (pCo (pMi S) (S 34)) h (pNm S) N ≤ 32000 := by
      intro h h0 h3
      have a := pLo_nn (h := h) hcn (pNm S) N
      have b := pLo_ub (c := pCo (pMi S) (S 34)) (h := h) (C := 4000) (by decide) (pNm S) (fun k k0 k1 => pCo_b (hmi k k0 k1) (hsp h h0 h3)) N
      omega
    have a := u 0 (by decide) (by decide)
    have b := u 1 (by decide) (by decide)
    have c := u 2 (by decide) (by decide)
    unfold pTm
    omega
  have fin : ∀ T : HS, zFr mpA mpO S T → T 51 56 = pNm S → (∀ j : Int, 0 ≤ j → j < pNm S → T 90 j = pRw S (S 7 11).toNat j ∧ T 91 j = pMi S j) → zP (J_X12_findPlan_81 T) (fun _ T => zFr mpA mpO S T ∧ T 51 56 = pNm S ∧ (∀ j : Int, 0 ≤ j → j < pNm S → T 90 j = pRw S (S 7 11).toNat j) ∧ gB (pCo (pMi S) (S 34)) (S 34) (pNm S) (fun N => N < pPw (pNm S)) (T 51 60) (T 92) (-1)) := by
    intro T fT t56 tj
    unfold J_X12_findPlan_81
    refine zloop2 (b := (pNm S : Int)) (fun a v U => (0 ≤ v ∧ v ≤ pNm S) ∧ U = T ∧ a = pPw v.toNat) (fun n a v U hJ hv => ?_) (fun n a v U hJ hv ih => ?_) _ _ _ _ ⟨⟨Int.le_refl _, by omega⟩, rfl, rfl⟩ (zbig (by omega))
    · obtain ⟨x, rfl, e⟩ := hJ
      rw [L_X12_findPlan_85.eq_2, t56, if_pos hv, zs_in]
      have ea : a = pPw (pNm S) := by
        rw [e]
        congr 1
        omega
      refine zloop (b := pPw (pNm S)) (fun v V => (0 ≤ v ∧ v ≤ pPw (pNm S)) ∧ zFr mpA mpO S V ∧ V 51 56 = pNm S ∧ (∀ j : Int, 0 ≤ j → j < pNm S → V 90 j = pRw S (S 7 11).toNat j ∧ V 91 j = pMi S j) ∧ (-1 ≤ V 51 60 ∧ V 51 60 ≤ 32000) ∧ gB (pCo (pMi S) (S 34)) (S 34) (pNm S) (fun N => N < v) (V 51 60) (V 92) (-1)) (fun n v V hJ hv => ?_) (fun n v V hJ hv ih => ?_) _ _ _ ⟨⟨Int.le_refl _, by omega⟩, zfr_upO fT (by decide), by rw [up_same, if_neg (by decide)]; exact t56, fun j j0 j1 => by rw [up_cell _ (by decide), up_cell _ (by decide)]; exact tj j j0 j1, by rw [up_eq]; decide, Or.inl ⟨up_eq .., fun N n0 n1 => by have n1' : N < 0 := n1; omega⟩⟩ (zbig (by omega))
      · obtain ⟨x, fV, v56, vj, vr, vb⟩ := hJ
        have e : v = pPw (pNm S) := by omega
        subst e
        rw [ea, L_X12_findPlan_110.eq_2, if_pos (Int.le_refl _), zP_ret]
        exact ⟨fV, v56, fun j j0 j1 => (vj j j0 j1).1, vb⟩
      · obtain ⟨x, fV, v56, vj, vr, vb⟩ := hJ
        have v89 : ∀ h : Int, 0 ≤ h → h < 3 → V 89 h = S 34 h := fun h h0 h3 => by
          rw [fV.cell 89 (by decide) (by decide)]
          exact (iC.1 h h0 h3).1
        rw [ea, L_X12_findPlan_110.eq_2, if_neg (by omega), zP_zb]
        refine zP_mono (m_timeOf (S := V) (sp := S 34) (mi := pMi S) hp8 hsp hmi ⟨v56, v89, fun j j0 j1 => (vj j j0 j1).2⟩ x.1 (by omega)) (fun r W hW => ?_)
        obtain ⟨w1, w2⟩ := hW
        have fW : zFr mpA mpO S W := fV.trans (zFr.mono (by decide) (by decide) w1.fr)
        have w60 : W 51 60 = V 51 60 := by rw [w1 51 (by decide)]
        have w56 : W 51 56 = pNm S := by rw [w1 51 (by decide)]; exact v56
        have w92 : W 92 = V 92 := w1 92 (by decide)
        have wj : ∀ j : Int, 0 ≤ j → j < pNm S → W 90 j = pRw S (S 7 11).toNat j ∧ W 91 j = pMi S j := fun j j0 j1 => by
          rw [w1 90 (by decide), w1 91 (by decide)]
          exact vj j j0 j1
        have keep : (pVa (S 34) (pNm S) v → V 51 60 ≠ -1 ∧ V 51 60 ≤ pTm (pCo (pMi S) (S 34)) (pNm S) v) → zP (J_X12_findPlan_184 (L_X12_findPlan_110 (pPw (pNm S)) n) (pPw (pNm S)) v W) (fun _ T => zFr mpA mpO S T ∧ T 51 56 = pNm S ∧ (∀ j : Int, 0 ≤ j → j < pNm S → T 90 j = pRw S (S 7 11).toNat j) ∧ gB (pCo (pMi S) (S 34)) (S 34) (pNm S) (fun N => N < pPw (pNm S)) (T 51 60) (T 92) (-1)) := by
          intro h
          unfold J_X12_findPlan_184
          rw [zl_in (by omega)]
          rw [ea] at ih
          refine ih W ⟨by omega, fW, w56, wj, by rw [w60]; exact vr, ?_⟩
          rw [w60, w92]
          refine vb.more (fun N n0 y => by show N < v + 1; have y' : N < v := y; omega) (fun N n0 y z va => ?_)
          have y' : N < v + 1 := y
          have z' : ¬ N < v := z
          have e : N = v := by omega
          subst e
          have k := h va
          exact ⟨k.1, k.2, fun M hM => by have hM' : M < N := hM; omega⟩
        have take : r = pTm (pCo (pMi S) (S 34)) (pNm S) v → pVa (S 34) (pNm S) v → (V 51 60 = -1 ∨ r < V 51 60) → zP (J_X12_findPlan_140 (L_X12_findPlan_110 (pPw (pNm S)) n) (pPw (pNm S)) v r W) (fun _ T => zFr mpA mpO S T ∧ T 51 56 = pNm S ∧ (∀ j : Int, 0 ≤ j → j < pNm S → T 90 j = pRw S (S 7 11).toNat j) ∧ gB (pCo (pMi S) (S 34)) (S 34) (pNm S) (fun N => N < pPw (pNm S)) (T 51 60) (T 92) (-1)) := by
          intro er va hb
          have tr := htm v
          unfold J_X12_findPlan_140
          have u56 : up W 51 60 r 51 56 = pNm S := by
            rw [up_same, if_neg (by decide)]
            exact w56
          rw [zs_in, u56, zl_in (by omega)]
          refine m_digits hp8 x.1 (by omega) (fun X hX hd => ?_)
          unfold J_X12_findPlan_184
          rw [zl_in (by omega)]
          rw [ea] at ih
          have x60 : X 51 60 = r := by rw [hX 51 (by decide), up_eq]
          refine ih X ⟨by omega, (zfr_upO fW (by decide)).trans (zFr.mono (by decide) (by decide) hX.fr), ?_, fun j j0 j1 => ?_, by omega, ?_⟩
          · rw [hX 51 (by decide)]
            exact u56
          · rw [hX 90 (by decide), hX 91 (by decide), up_cell _ (by decide), up_cell _ (by decide)]
            exact wj j j0 j1
          · rw [x60, er]
            refine vb.set x.1 (fun N n0 => ?_) va ?_ hd
            · show N < v + 1 ↔ N < v ∨ N = v
              omega
            · rcases hb with y | y
              · refine Or.inl ⟨y, ?_⟩
                rcases vb with ⟨-, b⟩ | ⟨M, -, -, -, m3, -⟩
                · exact b
                · have := htm M
                  omega
              · exact Or.inr (by omega)
        rcases w2 with ⟨q1, q2⟩ | ⟨q1, q2⟩
        · rw [if_pos (by omega)]
          exact keep (fun va => absurd va q2)
        · have tr := htm v
          rw [if_neg (by omega), w60]
          by_cases g : V 51 60 < 0
          · rw [if_pos g]
            exact take q1 q2 (Or.inl (by omega))
          · rw [if_neg g]
            by_cases g2 : V 51 60 ≤ r
            · rw [if_pos g2]
              exact keep (fun _ => ⟨by omega, by omega⟩)
            · rw [if_neg g2]
              exact take q1 q2 (Or.inr (by omega))
    · obtain ⟨x, rfl, e⟩ := hJ
      have pv := pPw_r v.toNat (by omega)
      rw [L_X12_findPlan_85.eq_2, t56, if_neg (by omega), zl_in (by omega), zl_in (by omega)]
      refine ih _ _ ⟨by omega, rfl, ?_⟩
      rw [show (v + 1).toNat = v.toNat + 1 by omega, e]
      rfl
  unfold M_X12_findPlan
  rw [zs_in]
  refine zloop (b := S 7 11) (fun v T => (0 ≤ v ∧ v ≤ S 7 11) ∧ zFr mpA mpO S T ∧ T 51 56 = pSz S v.toNat ∧ ∀ j : Int, 0 ≤ j → j < pSz S v.toNat → T 90 j = pRw S v.toNat j ∧ T 91 j = gMi S (pRw S v.toNat j)) (fun n v T hJ hv => ?_) (fun n v T hJ hv ih => ?_) _ _ _ ⟨⟨Int.le_refl _, h24.1⟩, zfr_upO zFr.rf (by decide), up_eq .., fun j j0 j1 => by have : j < 0 := j1; omega⟩ (zbig (by omega))
  · obtain ⟨a, b, c, d⟩ := hJ
    have ev : v = S 7 11 := by omega
    subst ev
    have t27 : T 51 27 = S 7 11 := (b 51 27 (by decide) (by decide)).trans r27
    rw [L_X12_findPlan_7.eq_2, if_pos (by omega)]
    exact fin T b (by omega) (fun j j0 j1 => d j j0 (by omega))
  · obtain ⟨a, b, c, d⟩ := hJ
    have t27 : T 51 27 = S 7 11 := (b 51 27 (by decide) (by decide)).trans r27
    have IT : iSum T := iSum_fr hI.s (by decide) (by decide) b
    have hc : core T = core S := core_fr (by decide) (by decide) b
    have t7 : T 7 = S 7 := b.cell 7 (by decide) (by decide)
    have t71 : T 71 v = S 15 v := (congrFun (b.cell 71 (by decide) (by decide)) v).trans (iM v a.1 hv).1
    have t1 : T 1 = S 1 := b.cell 1 (by decide) (by decide)
    have m := iM v a.1 hv
    have prv := pSz_r (S := S) v.toNat
    have pnv := pSz_n (S := S) a.1
    rw [L_X12_findPlan_7.eq_2, if_neg (by omega), c]
    by_cases g : 8 ≤ pSz S v.toNat
    · have s8 := pSz_8 v.toNat g (S 7 11 - v).toNat
      rw [show v.toNat + (S 7 11 - v).toNat = (S 7 11).toNat by omega] at s8
      rw [if_pos g]
      refine fin T b (by omega) (fun j j0 j1 => ?_)
      have z := d j j0 (by omega)
      unfold pMi
      rw [s8.2 j]
      exact z
    · rw [if_neg g, zg_in (by omega), t71]
      have put : ∀ U : HS, zFr mpA mpO T U → U 51 56 = T 51 56 → U 90 = T 90 → U 91 = T 91 → pSb S v ≠ 0 → zP (J_X12_findPlan_41 (L_X12_findPlan_7 (fun S18 => J_X12_findPlan_81 S18) n) v U) (fun _ T => zFr mpA mpO S T ∧ T 51 56 = pNm S ∧ (∀ j : Int, 0 ≤ j → j < pNm S → T 90 j = pRw S (S 7 11).toNat j) ∧ gB (pCo (pMi S) (S 34)) (S 34) (pNm S) (fun N => N < pPw (pNm S)) (T 51 60) (T 92) (-1)) := by
        intro U fU u56 u90 u91 hs
        have ng : ¬ (pSb S v = 0 ∨ 8 ≤ pSz S v.toNat) := fun q => q.elim hs g
        rw [if_neg ng] at pnv
        have fV : zFr mpA mpO S (up U 90 (pSz S v.toNat) v) := zfr_up (b.trans fU) (by decide)
        have hV : core (up U 90 (pSz S v.toNat) v) = core S := core_fr (by decide) (by decide) fV
        have IV : iSum (up U 90 (pSz S v.toNat) v) := iSum_fr hI.s (by decide) (by decide) fV
        unfold J_X12_findPlan_41 J_X12_findPlan_75
        rw [u56, c, zg_in (by omega), zs_in, zP_zb]
        have v7 : up U 90 (pSz S v.toNat) v 7 = S 7 := fV.cell 7 (by decide) (by decide)
        refine zP_mono (m_workOf IV a.1 (by rw [v7]; exact hv)) (fun w W hW => ?_)
        obtain ⟨w1, w2⟩ := hW
        rw [gMi_e hV] at w1
        have e56 : up U 90 (pSz S v.toNat) v 51 56 = pSz S v.toNat := by rw [up_cell _ (by decide), u56, c]
        have x56 : up W 91 (pSz S v.toNat) w 51 56 = pSz S v.toNat := by rw [up_cell _ (by decide), w2 51 (by decide), e56]
        rw [e56, zg_in (by omega), zs_in, x56, zl_in (by omega), zs_in, zl_in (by omega)]
        refine ih _ ⟨by omega, zfr_upO (zfr_up (fV.trans (zFr.mono (by decide) (by decide) w2.fr)) (by decide)) (by decide), ?_, fun j j0 j1 => ?_⟩
        · rw [up_eq, pnv.1]
        · rw [pnv.1] at j1
          rw [pnv.2 j, up_cell _ (by decide), up_cell _ (by decide), w2 90 (by decide), up_same, up_cell _ (by decide), up_same, w2 91 (by decide), up_cell _ (by decide), u90, u91]
          by_cases q : j = pSz S v.toNat
          · rw [if_pos q, if_pos q, if_pos ⟨ng, q⟩]
            exact ⟨rfl, w1⟩
          · rw [if_neg q, if_neg q, if_neg (fun z => q z.2)]
            exact d j j0 (by omega)
      by_cases g2 : S 15 v < 0
      · rw [if_pos g2]
        exact put T zFr.rf rfl rfl rfl (by unfold pSb; rw [if_pos (by omega)]; decide)
      · rw [if_neg g2, zP_zb]
        refine zP_mono (m_isOutNow IT a.1 (by rw [t7]; exact hv) (by rw [t71, t1]; omega)) (fun w U hU => ?_)
        obtain ⟨u1, u2⟩ := hU
        have t15 : T 15 = S 15 := b.cell 15 (by decide) (by decide)
        have eg : w = gOu S (S 15 v) v := by
          have := congrFun (pSb_e hc) v
          unfold pSb at this
          rw [t15, if_neg (show ¬ S 15 v = -1 by omega), if_neg (show ¬ S 15 v = -1 by omega)] at this
          rw [t71] at u1
          have z1 : gOu T (S 15 v) v = 0 ∨ gOu T (S 15 v) v = 1 := by
            unfold gOu
            repeat' split
            all_goals first | exact Or.inl rfl | exact Or.inr rfl
          have z2 : gOu S (S 15 v) v = 0 ∨ gOu S (S 15 v) v = 1 := by
            unfold gOu
            repeat' split
            all_goals first | exact Or.inl rfl | exact Or.inr rfl
          split at this <;> split at this <;> omega
        have fU : zFr mpA mpO T U := zFr.mono (by decide) (by decide) u2.fr
        rw [eg]
        by_cases g3 : gOu S (S 15 v) v = 0
        · have hs : pSb S v = 0 := by
            unfold pSb
            rw [if_neg (show ¬ S 15 v = -1 by omega), if_pos g3]
          rw [if_pos g3]
          unfold J_X12_findPlan_75
          rw [zl_in (by omega)]
          rw [if_pos (Or.inl hs)] at pnv
          refine ih _ ⟨by omega, b.trans fU, by rw [u2 51 (by decide), c, pnv.1], fun j j0 j1 => ?_⟩
          rw [pnv.1] at j1
          rw [pnv.2 j, if_neg (fun q => q.1 (Or.inl hs)), u2 90 (by decide), u2 91 (by decide)]
          exact d j j0 j1
        · rw [if_neg g3]
          exact put U fU (by rw [u2 51 (by decide)]) (u2 90 (by decide)) (u2 91 (by decide)) (by unfold pSb; rw [if_neg (show ¬ S 15 v = -1 by omega), if_neg g3]; decide)
/-- the two plans are one -/
def gPl (S : HS) (B : Int) (bst : Int → Int) : Prop := gB (pCo (pMi S) (S 34)) (S 34) (pNm S) (fun N => pAn (pNm S) N < 1) B bst 1000000
theorem gPl_e {T : HS} (h : core T = core S) : pNm T = pNm S ∧ (∀ j : Int, pRw T (T 7 11).toNat j = pRw S (S 7 11).toNat j) ∧ pMi T = pMi S ∧ T 34 = S 34 := by
  have t7 : T 7 11 = S 7 11 := congrFun (congrFun h 7) 11
  have t34 : T 34 = S 34 := congrFun h 34
  have r : ∀ j : Int, pRw T (T 7 11).toNat j = pRw S (S 7 11).toNat j := fun j => by rw [t7, pRw_e h]
  refine ⟨?_, r, ?_, t34⟩
  · unfold pNm
    rw [t7, pSz_e h]
  · funext j
    unfold pMi
    rw [r, gMi_e h]
theorem gPl_one {T : HS} {B B2 : Int} {bst bst2 : Int → Int} (hI : iAll S) (h : core T = core S) (h1 : gPl S B bst) (h2 : gB (pCo (pMi T) (T 34)) (T 34) (pNm T) (fun N => N < pPw (pNm T)) B2 bst2 (-1)) : B2 = B ∧ ∀ j : Int, 0 ≤ j → j < pNm S → bst2 j = bst j := by
  obtain ⟨e1, e2, e3, e4⟩ := gPl_e h
  have iC := hI.2.2.2.2.2.2.2.2.1
  rw [e1, e3, e4] at h2
  have h2' := h2.cong (A' := fun N => pAn (pNm S) N < 1) (bst' := bst2) (fun N n0 => (pAn_pw (pNm S) N n0).symm) (fun _ _ _ => rfl)
  exact h2'.one h1 (by show pAn (pNm S) 0 < 1; rw [pAn_0]; decide) (pVa_0 (by have := iC.2; omega) _)
theorem gPl_r {B : Int} {bst : Int → Int} (hI : iAll S) (h1 : gPl S B bst) : 0 ≤ B ∧ B ≤ 1000000 := by
  rcases h1 with ⟨a, -⟩ | ⟨M, m0, m1, m2, m3, -⟩
  · omega
  · have pr := pSz_r (S := S) (S 7 11).toNat
    have pn : (pNm S : Int) = pSz S (S 7 11).toNat := Int.toNat_of_nonneg pr.1
    have iC := hI.2.2.2.2.2.2.2.2.1
    have h24 := hI.2.2.2.2.1.c.1
    have u : ∀ h : Int, 0 ≤ h → h < 3 → 0 ≤ pLo (pCo (pMi S) (S 34)) h (pNm S) M ∧ pLo (pCo (pMi S) (S 34)) h (pNm S) M ≤ 32000 := by
      intro h h0 h3
      have a := pLo_nn (h := h) (c := pCo (pMi S) (S 34)) (fun k h => pCo_r) (pNm S) M
      have b := pLo_ub (c := pCo (pMi S) (S 34)) (h := h) (C := 4000) (by decide) (pNm S) (fun k k0 k1 => pCo_b (by
        have := pRw_r (S := S) (S 7 11).toNat k k0 (by omega)
        exact gMi_b hI.s this.1 (by omega)) (iC.1 h h0 h3).2) M
      omega
    have a := u 0 (by decide) (by decide)
    have b := u 1 (by decide) (by decide)
    have c := u 2 (by decide) (by decide)
    unfold pTm at m3
    omega
theorem ok_18 (hI : Inv S) : OK_18 Inv S := by
  intro q hq
  refine zcall (Q1 := fun r _ => (¬ (0 ≤ q ∧ q ≤ 2) → r = -1) ∧ (0 ≤ q ∧ q ≤ 2 → ∃ (B : Int) (bst : Int → Int), gPl S B bst ∧ r = if q = 0 then B else if q = 1 then B + 10 * (if B ≤ 0 then 0 else (B - 1) / 60) else pNm S)) hI (fun w => W_M_X11_plan hq w) (fun T w => W_M_X12_plan hq w) (by decide) (by decide) (by decide) (by decide) ?_ (fun v T hv wT iT cT => ?_)
  · unfold M_X11_plan
    by_cases g : 0 ≤ q ∧ q ≤ 2
    · rw [if_neg (by omega), if_pos g.2, zP_zb]
      refine zP_mono (e_makePlan hI.2) (fun _ U hU => ?_)
      obtain ⟨u1, u6, u7, u36, ub⟩ := hU
      have br := gPl_r hI.2 ub
      by_cases g0 : q = 0
      · rw [if_pos g0, zP_ret]
        exact ⟨fun x => absurd g x, fun _ => ⟨_, _, ub, by rw [if_pos g0]⟩⟩
      · rw [if_neg g0]
        by_cases g1 : q = 1
        · rw [if_pos g1]
          unfold M_X1_sitting J_X1_sitting_20
          by_cases g2 : U 33 7 ≤ 0
          · rw [if_pos g2, zl_in (by omega), zb_some, zP_ret]
            exact ⟨fun x => absurd g x, fun _ => ⟨_, _, ub, by rw [if_neg g0, if_pos g1, if_pos g2]⟩⟩
          · rw [if_neg g2, zl_in (by omega), zg_in (by omega), zl_in (by omega), zl_in (by omega), zb_some, zP_ret]
            exact ⟨fun x => absurd g x, fun _ => ⟨_, _, ub, by rw [if_neg g0, if_pos g1, if_neg g2]⟩⟩
        · rw [if_neg g1, zP_ret]
          exact ⟨fun x => absurd g x, fun _ => ⟨_, _, ub, by rw [if_neg g0, if_neg g1, u6]⟩⟩
    · by_cases g0 : q < 0
      · rw [if_pos g0, zP_ret]
        exact ⟨fun _ => rfl, fun x => absurd x g⟩
      · rw [if_neg g0, if_neg (by omega), zP_ret]
        exact ⟨fun _ => rfl, fun x => absurd x g⟩
  · have iU := iAll_thr iT 0
    have cU : core (up T 51 0 0) = core S := (core_fr (A := []) (O := [(51, 0)]) (by decide) (by decide) (fun k i _ b => by
      rw [up_at, if_neg]
      rintro ⟨rfl, rfl⟩
      exact b (by simp))).trans cT
    unfold M_X12_plan
    rw [zs_in, zP_zb]
    refine zP_mono (m_findPlan iU) (fun _ V hV => ?_)
    obtain ⟨f1, v56, v90, vb⟩ := hV
    by_cases g : 0 ≤ q ∧ q ≤ 2
    · obtain ⟨B, bst, hB, er⟩ := hv.2 g
      have br := gPl_r hI.2 hB
      have e := (gPl_one hI.2 cU hB vb).1
      rw [(gPl_e cU).1] at v56
      by_cases g0 : q = 0
      · rw [if_pos g0] at er
        rw [if_pos g0, zP_ret, e, er]
      · rw [if_neg g0] at er
        rw [if_neg g0]
        by_cases g1 : q = 1
        · rw [if_pos g1] at er
          rw [if_pos g1, e]
          by_cases g2 : B = 0
          · rw [if_pos g2, zP_ret, er, g2]
            rfl
          · rw [if_neg g2, zl_in (by omega), zg_in (by omega), zl_in (by omega), zP_ret, er, if_neg (by omega)]
            omega
        · rw [if_neg g1] at er
          rw [if_neg g1, if_pos (by omega), zP_ret, v56, er]
    · rw [hv.1 g, if_neg (by omega), if_neg (by omega), if_neg (by omega), zP_ret]
theorem ok_19 (hI : Inv S) : OK_19 Inv S := by
  intro q hq
  have pr := pSz_r (S := S) (S 7 11).toNat
  have pn : (pNm S : Int) = pSz S (S 7 11).toNat := Int.toNat_of_nonneg pr.1
  have uni : ∀ i j : Int, 0 ≤ i → i < pNm S → 0 ≤ j → j < pNm S → pRw S (S 7 11).toNat i = pRw S (S 7 11).toNat j → i = j := by
    intro i j i0 i1 j0 j1 e
    have a := pRw_lt (S := S) (S 7 11).toNat
    by_cases x : i < j
    · have := a i j i0 x (by omega)
      omega
    · by_cases y : j < i
      · have := a j i j0 y (by omega)
        omega
      · omega
  refine zcall (Q1 := fun r _ => ∃ (B : Int) (bst : Int → Int), gPl S B bst ∧ ((∃ j : Int, 0 ≤ j ∧ j < pNm S ∧ pRw S (S 7 11).toNat j = q ∧ r = bst j) ∨ ((∀ j : Int, 0 ≤ j → j < pNm S → pRw S (S 7 11).toNat j ≠ q) ∧ r = -1))) hI (fun w => W_M_X11_planned hq w) (fun T w => W_M_X12_planned hq w) (by decide) (by decide) (by decide) (by decide) ?_ (fun v T hv wT iT cT => ?_)
  · unfold M_X11_planned
    rw [zP_zb]
    refine zP_mono (e_makePlan hI.2) (fun _ U hU => ?_)
    obtain ⟨u1, u6, u7, u36, ub⟩ := hU
    rw [zP_zb]
    unfold M_X1_handFor
    refine zloop (b := (pNm S : Int)) (fun v T => (0 ≤ v ∧ v ≤ pNm S) ∧ T = U ∧ ∀ j : Int, 0 ≤ j → j < v → pRw S (S 7 11).toNat j ≠ q) (fun n v T hJ hv => ?_) (fun n v T hJ hv ih => ?_) _ _ _ ⟨⟨Int.le_refl _, by omega⟩, rfl, fun j a b => by omega⟩ (zbig (by omega))
    · obtain ⟨x, rfl, k⟩ := hJ
      rw [L_X1_handFor_2.eq_2, if_pos (by omega), zP_ret, zP_ret]
      exact ⟨_, _, ub, Or.inr ⟨fun j j0 j1 => k j j0 (by omega), rfl⟩⟩
    · obtain ⟨x, rfl, k⟩ := hJ
      rw [L_X1_handFor_2.eq_2, if_neg (by omega), if_neg (by omega), zg_in (by omega), u36 v x.1 hv]
      by_cases g : pRw S (S 7 11).toNat v = q
      · rw [if_pos g, zg_in (by omega), zP_ret, zP_ret]
        exact ⟨_, _, ub, Or.inl ⟨v, x.1, hv, g, rfl⟩⟩
      · rw [if_neg g, zl_in (by omega)]
        refine ih _ ⟨by omega, rfl, fun j j0 j1 => ?_⟩
        by_cases e : j = v
        · rw [e]
          exact g
        · exact k j j0 (by omega)
  · have iU := iAll_thr iT 0
    have cU : core (up T 51 0 0) = core S := (core_fr (A := []) (O := [(51, 0)]) (by decide) (by decide) (fun k i _ b => by
      rw [up_at, if_neg]
      rintro ⟨rfl, rfl⟩
      exact b (by simp))).trans cT
    obtain ⟨B, bst, hB, er⟩ := hv
    unfold M_X12_planned
    rw [zs_in, zP_zb]
    refine zP_mono (m_findPlan iU) (fun _ V hV => ?_)
    obtain ⟨f1, v56, v90, vb⟩ := hV
    have e := (gPl_one hI.2 cU hB vb).2
    obtain ⟨e1, e2, -, -⟩ := gPl_e cU
    rw [e1] at v56 v90
    refine zloop2 (b := (pNm S : Int)) (fun a k W => (0 ≤ k ∧ k ≤ pNm S) ∧ W = V ∧ ((∃ j : Int, 0 ≤ j ∧ j < k ∧ pRw S (S 7 11).toNat j = q ∧ a = bst j) ∨ ((∀ j : Int, 0 ≤ j → j < k → pRw S (S 7 11).toNat j ≠ q) ∧ a = -1))) (fun n a k W hJ hk => ?_) (fun n a k W hJ hk ih => ?_) _ _ _ _ ⟨⟨Int.le_refl _, by omega⟩, rfl, Or.inr ⟨fun j a b => by omega, rfl⟩⟩ (zbig (by omega))
    · obtain ⟨x, rfl, k2⟩ := hJ
      rw [L_X12_planned_13.eq_2, if_pos (by omega), zP_ret]
      rcases er with ⟨j, j0, j1, j2, j3⟩ | ⟨j1, j2⟩
      · rcases k2 with ⟨i, i0, i1, i2, i3⟩ | ⟨i1, i2⟩
        · rw [i3, j3, uni i j i0 (by omega) j0 j1 (by omega)]
        · exact absurd j2 (i1 j j0 (by omega))
      · rcases k2 with ⟨i, i0, i1, i2, i3⟩ | ⟨i1, i2⟩
        · exact absurd i2 (j1 i i0 (by omega))
        · rw [i2, j2]
    · obtain ⟨x, rfl, k2⟩ := hJ
      have w90 : W 90 k = pRw S (S 7 11).toNat k := by
        rw [v90 k x.1 hk]
        exact e2 k
      rw [L_X12_planned_13.eq_2, if_neg (by omega), zg_in (by omega), w90]
      unfold J_X12_planned_41
      by_cases g : pRw S (S 7 11).toNat k = q
      · rw [if_pos g, zg_in (by omega), zl_in (by omega)]
        exact ih _ _ ⟨by omega, rfl, Or.inl ⟨k, x.1, by omega, g, e k x.1 hk⟩⟩
      · rw [if_neg g, zl_in (by omega)]
        refine ih _ _ ⟨by omega, rfl, ?_⟩
        rcases k2 with ⟨i, i0, i1, i2, i3⟩ | ⟨i1, i2⟩
        · exact Or.inl ⟨i, i0, by omega, i2, i3⟩
        · refine Or.inr ⟨fun j j0 j1 => ?_, i2⟩
          by_cases y : j = k
          · rw [y]
            exact g
          · exact i1 j j0 (by omega)
end P4
