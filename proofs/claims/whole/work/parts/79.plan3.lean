/-! plans: which rows; the reference's numbers -/
def pSb (S : HS) (r : Int) : Int := if S 15 r = -1 then 1 else if gOu S (S 15 r) r = 0 then 0 else 1
def pSz (S : HS) : Nat → Int
  | 0 => 0
  | v + 1 => if pSb S v = 0 ∨ 8 ≤ pSz S v then pSz S v else pSz S v + 1
def pRw (S : HS) : Nat → Int → Int
  | 0, _ => 0
  | v + 1, j => if ¬ (pSb S v = 0 ∨ 8 ≤ pSz S v) ∧ j = pSz S v then v else pRw S v j
section P3
variable {S : HS}
theorem pSz_r (v : Nat) : 0 ≤ pSz S v ∧ pSz S v ≤ 8 := by
  induction v with
  | zero => exact ⟨Int.le_refl _, show (0 : Int) ≤ 8 by decide⟩
  | succ v ih =>
    unfold pSz
    split <;> omega
theorem pRw_r (v : Nat) : ∀ j : Int, 0 ≤ j → j < pSz S v → 0 ≤ pRw S v j ∧ pRw S v j < v := by
  induction v with
  | zero =>
    intro j j0 j1
    have : j < 0 := j1
    omega
  | succ v ih =>
    intro j j0 j1
    unfold pSz at j1
    unfold pRw
    by_cases g : pSb S v = 0 ∨ 8 ≤ pSz S v
    · rw [if_pos g] at j1
      rw [if_neg (fun q => q.1 g)]
      have := ih j j0 j1
      omega
    · rw [if_neg g] at j1
      by_cases e : j = pSz S v
      · rw [if_pos ⟨g, e⟩]
        omega
      · rw [if_neg (fun q => e q.2)]
        have := ih j j0 (by omega)
        omega
theorem pRw_lt (v : Nat) : ∀ i j : Int, 0 ≤ i → i < j → j < pSz S v → pRw S v i < pRw S v j := by
  induction v with
  | zero =>
    intro i j i0 ij j1
    have : j < 0 := j1
    omega
  | succ v ih =>
    intro i j i0 ij j1
    unfold pSz at j1
    unfold pRw
    by_cases g : pSb S v = 0 ∨ 8 ≤ pSz S v
    · rw [if_pos g] at j1
      rw [if_neg (fun q => q.1 g), if_neg (fun q => q.1 g)]
      exact ih i j i0 ij j1
    · rw [if_neg g] at j1
      by_cases e : j = pSz S v
      · rw [if_neg (fun q => by have := q.2; omega), if_pos ⟨g, e⟩]
        exact (pRw_r v i i0 (by omega)).2
      · rw [if_neg (fun q => by have := q.2; omega), if_neg (fun q => e q.2)]
        exact ih i j i0 ij (by omega)
theorem pSz_8 (v : Nat) (h : 8 ≤ pSz S v) (d : Nat) : pSz S (v + d) = pSz S v ∧ ∀ j : Int, pRw S (v + d) j = pRw S v j := by
  induction d with
  | zero => exact ⟨rfl, fun _ => rfl⟩
  | succ d ih =>
    have e : v + (d + 1) = (v + d) + 1 := rfl
    have s1 : pSz S (v + d + 1) = if pSb S (v + d : Nat) = 0 ∨ 8 ≤ pSz S (v + d) then pSz S (v + d) else pSz S (v + d) + 1 := rfl
    have s2 : ∀ j : Int, pRw S (v + d + 1) j = if ¬ (pSb S (v + d : Nat) = 0 ∨ 8 ≤ pSz S (v + d)) ∧ j = pSz S (v + d) then ((v + d : Nat) : Int) else pRw S (v + d) j := fun _ => rfl
    have o : pSb S (v + d : Nat) = 0 ∨ 8 ≤ pSz S (v + d) := Or.inr (by omega)
    rw [e, s1, if_pos o]
    refine ⟨ih.1, fun j => ?_⟩
    rw [s2, if_neg (fun q => q.1 o)]
    exact ih.2 j
theorem pSz_n {v : Int} (v0 : 0 ≤ v) : pSz S (v + 1).toNat = (if pSb S v = 0 ∨ 8 ≤ pSz S v.toNat then pSz S v.toNat else pSz S v.toNat + 1) ∧ ∀ j : Int, pRw S (v + 1).toNat j = if ¬ (pSb S v = 0 ∨ 8 ≤ pSz S v.toNat) ∧ j = pSz S v.toNat then v else pRw S v.toNat j := by
  rw [show (v + 1).toNat = v.toNat + 1 by omega]
  refine ⟨?_, fun j => ?_⟩
  · rw [pSz, Int.toNat_of_nonneg v0]
  · rw [pRw, Int.toNat_of_nonneg v0]
theorem gMi_c : gMi (core S) = gMi S := rfl
theorem pSb_c : pSb (core S) = pSb S := rfl
theorem gMi_e {T : HS} (h : core T = core S) : gMi T = gMi S := by rw [← gMi_c, h, gMi_c]
theorem pSb_e {T : HS} (h : core T = core S) : pSb T = pSb S := by rw [← pSb_c, h, pSb_c]
theorem pSz_e {T : HS} (h : core T = core S) (v : Nat) : pSz T v = pSz S v := by
  induction v with
  | zero => rfl
  | succ v ih =>
    unfold pSz
    rw [ih, pSb_e h]
theorem pRw_e {T : HS} (h : core T = core S) (v : Nat) : ∀ j : Int, pRw T v j = pRw S v j := by
  induction v with
  | zero => exact fun _ => rfl
  | succ v ih =>
    intro j
    unfold pRw
    rw [ih, pSb_e h, pSz_e h]
theorem pAn_0 (d : Nat) : pAn d 0 = 0 := by
  induction d with
  | zero => rfl
  | succ d ih => exact ih
theorem pAn_nn (d : Nat) {N : Int} (h : 0 ≤ N) : 0 ≤ pAn d N := by
  have := pAn_mono d 0 N h
  rw [pAn_0] at this
  exact this
/-- how the plan stands for S -/
def pNm (S : HS) : Nat := (pSz S (S 7 11).toNat).toNat
def pMi (S : HS) : Int → Int := fun j => gMi S (pRw S (S 7 11).toNat j)
theorem e_put8 {a b : Int} (h : 0 ≤ S 33 6 ∧ S 33 6 < 8) : M_X1_put a b S = some (0, up (up (up S 36 (S 33 6) a) 37 (S 33 6) b) 33 6 (S 33 6 + 1)) := by
  unfold M_X1_put
  rw [if_neg (by omega), zg_in h, zs_in]
  have e1 : up S 36 (S 33 6) a 33 6 = S 33 6 := rfl
  rw [e1, zg_in h, zs_in]
  have e2 : up (up S 36 (S 33 6) a) 37 (S 33 6) b 33 6 = S 33 6 := rfl
  rw [e2, zl_in (by omega), zs_in]
theorem e_makePlan (hI : iAll S) : zP (M_X11_makePlan S) (fun _ T => rSame [33, 35, 36, 37, 38, 39] S T ∧ T 33 6 = pNm S ∧ T 33 7 ≤ 1000000 ∧ (∀ j : Int, 0 ≤ j → j < pNm S → T 36 j = pRw S (S 7 11).toNat j) ∧ gB (pCo (pMi S) (S 34)) (S 34) (pNm S) (fun N => pAn (pNm S) N < 1) (T 33 7) (T 39) 1000000) := by
  have hR := hI.2.2.2.2.1.c
  have h24 := hR.1
  have iM := hI.2.2.2.2.2.1.1
  have iC := hI.2.2.2.2.2.2.2.2.1
  unfold M_X11_makePlan M_X1_clear
  rw [zs_in, zb_some]
  refine zloop (b := S 7 11) (fun v T => (0 ≤ v ∧ v ≤ S 7 11) ∧ rSame [33, 36, 37] S T ∧ T 33 6 = pSz S v.toNat ∧ ∀ j : Int, 0 ≤ j → j < pSz S v.toNat → T 36 j = pRw S v.toNat j ∧ T 37 j = gMi S (pRw S v.toNat j)) (fun n v T hJ hv => ?_) (fun n v T hJ hv ih => ?_) _ _ _ ⟨⟨Int.le_refl _, h24.1⟩, rSame.rf.up (by decide), up_eq .., fun j j0 j1 => by have : j < 0 := j1; omega⟩ (zbig (by omega))
  · obtain ⟨a, b, c, d⟩ := hJ
    have t7 : T 7 = S 7 := b 7 (by decide)
    have ev : v = S 7 11 := by omega
    subst ev
    have pr := pSz_r (S := S) (S 7 11).toNat
    have pn : (pNm S : Int) = pSz S (S 7 11).toNat := Int.toNat_of_nonneg pr.1
    rw [L_X11_makePlan_9.eq_2, t7, if_pos hv, zP_zb]
    unfold M_X1_settle
    rw [zs_in, zs_in, zP_zb]
    have zf : ∀ k, k ≠ 35 → zfill T 35 3 0 k = T k := fun k hk => by
      funext i
      unfold zfill
      rw [if_neg (fun q => hk q.1)]
    have e0 : pTm (pCo (pMi S) (S 34)) 0 0 = 0 := rfl
    have sh := e_share (sp := S 34) (mi := pMi S) (p := pNm S) (by omega) (fun h h0 h3 => (iC.1 h h0 h3).2) (fun j j0 j1 => by
      have := pRw_r (S := S) (S 7 11).toNat j j0 (by omega)
      exact gMi_b hI.s this.1 (by omega)) (pNm S) 0 9 0 (up (zfill T 35 3 0) 33 7 1000000) (by omega) (by omega) (Int.le_refl _) ⟨?_, fun h h0 h3 => ?_, fun j j0 j1 => ?_⟩ trivial (fun h h0 h3 => ?_) (fun j j0 j1 => by omega) (by rw [e0, up_eq]; decide) (by rw [up_eq]; exact Int.le_refl _) (Or.inl ⟨up_eq .., fun N n0 x => by
        have := pAn_nn (pNm S) n0
        have x' : pAn (pNm S) N < 0 := x
        omega⟩)
    · rw [e0] at sh
      refine zP_mono sh (fun _ U hU => ?_)
      obtain ⟨u1, u6, u7, -, -, ub⟩ := hU
      rw [zP_ret, zP_ret]
      refine ⟨fun k hk => ?_, u6, u7, fun j j0 j1 => ?_, ub⟩
      · simp only [List.mem_cons, List.not_mem_nil, or_false, not_or] at hk
        rw [u1 k (by simp; omega), upfun hk.1, zf k (by omega), b k (by simp; omega)]
      · rw [u1 36 (by decide), upfun (show (36 : Nat) ≠ 33 by decide), zf 36 (by decide)]
        exact (d j j0 (by omega)).1
    · rw [up_same, if_neg (by decide), zf 33 (by decide), c, pn]
    · rw [up_cell _ (by decide), zf 34 (by decide), b 34 (by decide)]
    · rw [up_cell _ (by decide), zf 37 (by decide)]
      exact (d j j0 (by omega)).2
    · rw [up_cell _ (by decide)]
      show zfill T 35 3 0 35 h = 0
      unfold zfill
      rw [if_pos ⟨rfl, h0, h3⟩]
  · obtain ⟨a, b, c, d⟩ := hJ
    have IT : iSum T := rSame.all hI.s b (by decide)
    have t7 : T 7 = S 7 := b 7 (by decide)
    have t15 : T 15 = S 15 := b 15 (by decide)
    have t1 : T 1 = S 1 := b 1 (by decide)
    have hc : core T = core S := core_fr (by decide) (by decide) b.fr
    have m := iM v a.1 hv
    have pr := pSz_r (S := S) v.toNat
    have pn := pSz_n (S := S) a.1
    have mb := gMi_b hI.s a.1 hv
    have put : pSb S v ≠ 0 → zP (J_X11_makePlan_40 (L_X11_makePlan_9 (fun S15 => zb (M_X1_settle S15) fun _ S17 => some (0, S17)) n) v T) (fun _ T => rSame [33, 35, 36, 37, 38, 39] S T ∧ T 33 6 = pNm S ∧ T 33 7 ≤ 1000000 ∧ (∀ j : Int, 0 ≤ j → j < pNm S → T 36 j = pRw S (S 7 11).toNat j) ∧ gB (pCo (pMi S) (S 34)) (S 34) (pNm S) (fun N => pAn (pNm S) N < 1) (T 33 7) (T 39) 1000000) := by
      intro hs
      unfold J_X11_makePlan_40 J_X11_makePlan_56
      rw [e_minutes IT a.1 (by rw [t7]; exact hv), zb_some, gMi_e hc]
      by_cases g : 8 ≤ pSz S v.toNat
      · unfold M_X1_put
        rw [c, if_pos g, zb_some, zl_in (by omega)]
        rw [if_pos (Or.inr g)] at pn
        refine ih _ ⟨by omega, b, by rw [c, pn.1], fun j j0 j1 => ?_⟩
        rw [pn.1] at j1
        rw [pn.2 j, if_neg (fun q => q.1 (Or.inr g))]
        exact d j j0 j1
      · have ng : ¬ (pSb S v = 0 ∨ 8 ≤ pSz S v.toNat) := fun q => q.elim hs g
        rw [e_put8 (by omega), zb_some, zl_in (by omega), c]
        rw [if_neg ng] at pn
        refine ih _ ⟨by omega, ((b.up (by decide)).up (by decide)).up (by decide), ?_, fun j j0 j1 => ?_⟩
        · rw [up_eq, pn.1]
        · rw [pn.1] at j1
          rw [pn.2 j, up_cell _ (by decide), up_cell _ (by decide), up_same, up_cell _ (by decide), up_same, up_cell _ (by decide)]
          by_cases q : j = pSz S v.toNat
          · rw [if_pos q, if_pos q, if_pos ⟨ng, q⟩]
            exact ⟨rfl, rfl⟩
          · rw [if_neg q, if_neg q, if_neg (fun z => q z.2)]
            exact d j j0 (by omega)
    rw [L_X11_makePlan_9.eq_2, t7, if_neg (by omega), e_weekOf IT.2.2.2.2.1.c, zb_some, t7, if_pos (show 0 ≤ v ∧ v < S 7 11 from ⟨a.1, hv⟩), t15]
    by_cases g : S 15 v = -1
    · rw [if_pos g]
      exact put (by unfold pSb; rw [if_pos g]; decide)
    · rw [if_neg g, e_isGrownOut IT a.1 (by rw [t7]; exact hv) (by rw [t15, t1]; omega), zb_some]
      have eg : gOu T (T 15 v) v = gOu S (S 15 v) v := by
        have := congrFun (pSb_e hc) v
        unfold pSb at this
        rw [t15, if_neg g, if_neg g] at this
        rw [t15]
        have z1 : gOu T (S 15 v) v = 0 ∨ gOu T (S 15 v) v = 1 := by
          unfold gOu
          repeat' split
          all_goals first | exact Or.inl rfl | exact Or.inr rfl
        have z2 : gOu S (S 15 v) v = 0 ∨ gOu S (S 15 v) v = 1 := by
          unfold gOu
          repeat' split
          all_goals first | exact Or.inl rfl | exact Or.inr rfl
        split at this <;> split at this <;> omega
      rw [eg]
      by_cases g2 : gOu S (S 15 v) v = 0
      · have hs : pSb S v = 0 := by
          unfold pSb
          rw [if_neg g, if_pos g2]
        rw [if_pos g2]
        unfold J_X11_makePlan_56
        rw [zl_in (by omega)]
        rw [if_pos (Or.inl hs)] at pn
        refine ih _ ⟨by omega, b, by rw [c, pn.1], fun j j0 j1 => ?_⟩
        rw [pn.1] at j1
        rw [pn.2 j, if_neg (fun q => q.1 (Or.inl hs))]
        exact d j j0 j1
      · rw [if_neg g2]
        exact put (by unfold pSb; rw [if_neg g, if_neg g2]; decide)
/-! the reference -/
def tFx (S : HS) (sp mi : Int → Int) (p : Nat) : Prop := S 51 56 = p ∧ (∀ h : Int, 0 ≤ h → h < 3 → S 89 h = sp h) ∧ ∀ j : Int, 0 ≤ j → j < p → S 91 j = mi j
theorem m_timeOf {sp mi : Int → Int} {p : Nat} {N : Int} (hp : p ≤ 8) (hsp : ∀ h : Int, 0 ≤ h → h < 3 → 0 ≤ sp h ∧ sp h ≤ 3) (hmi : ∀ j : Int, 0 ≤ j → j < p → 0 ≤ mi j ∧ mi j ≤ 4000) (hx : tFx S sp mi p) (n0 : 0 ≤ N) (n1 : N ≤ 10000) : zP (M_X12_timeOf N S) (fun r T => rSame [93] S T ∧ ((r = -1 ∧ ¬ pVa sp p N) ∨ (r = pTm (pCo mi sp) p N ∧ pVa sp p N))) := by
  have hc : ∀ k h : Int, 0 ≤ pCo mi sp k h := fun k h => pCo_r
  have hub : ∀ (h : Int) (n : Nat) (N : Int), 0 ≤ h → h < 3 → n ≤ p → 0 ≤ pLo (pCo mi sp) h n N ∧ pLo (pCo mi sp) h n N ≤ 32000 := by
    intro h n N h0 h3 hn
    have a := pLo_nn (h := h) hc n N
    have b := pLo_ub (c := pCo mi sp) (h := h) (C := 4000) (by decide) n (fun k k0 k1 => pCo_b (hmi k k0 (by omega)) (hsp h h0 h3)) N
    omega
  unfold M_X12_timeOf
  refine zloop (b := 3) (fun v T => (0 ≤ v ∧ v ≤ 3) ∧ rSame [93] S T ∧ ∀ h : Int, 0 ≤ h → h < v → T 93 h = 0) (fun n v T hJ hv => ?_) (fun n v T hJ hv ih => ?_) _ _ _ ⟨⟨Int.le_refl _, by decide⟩, fun _ _ => rfl, fun h a b => by omega⟩ (zbig (by decide))
  · obtain ⟨a, b, c⟩ := hJ
    have t56 : T 51 56 = p := (congrFun (b 51 (by decide)) 56).trans hx.1
    rw [L_X12_timeOf_2.eq_2, if_pos hv, t56, zl_in (by omega)]
    refine zloopM (F := fun n (y : Int × Int × HS) => L_X12_timeOf_29 _ n y.1 y.2.1 y.2.2) (fun y => ∃ k : Nat, y.2.1 = (k : Int) - 1 ∧ k ≤ p ∧ (0 ≤ y.1 ∧ y.1 ≤ 10000) ∧ rSame [93] S y.2.2 ∧ (∀ h : Int, 0 ≤ h → h < 3 → 0 ≤ y.2.2 93 h ∧ y.2.2 93 h + pLo (pCo mi sp) h k y.1 = pLo (pCo mi sp) h p N) ∧ (pVa sp p N ↔ pVa sp k y.1)) (fun y => (y.2.1 + 1).toNat) (fun n y hJ ih => ?_) zBig (N, (p : Int) - 1, T) ⟨p, rfl, Nat.le_refl _, ⟨n0, n1⟩, b, fun h h0 h3 => ?_, Iff.rfl⟩ (by show ((p : Int) - 1 + 1).toNat < zBig; unfold zBig; omega)
    · obtain ⟨L, q, U⟩ := y
      obtain ⟨k, hq, hk, hL, bU, h93, hva⟩ := hJ
      simp only at hq hL bU h93 hva ih
      show zP (L_X12_timeOf_29 _ (n + 1) L q U) _
      rw [L_X12_timeOf_29.eq_2]
      cases k with
      | zero =>
        have v : pVa sp p N := hva.mpr trivial
        have e : ∀ h : Int, 0 ≤ h → h < 3 → U 93 h = pLo (pCo mi sp) h p N := fun h h0 h3 => by
          have z := (h93 h h0 h3).2
          have y : pLo (pCo mi sp) h 0 L = 0 := rfl
          rw [y] at z
          omega
        have e0 := e 0 (by decide) (by decide)
        have e1 := e 1 (by decide) (by decide)
        have e2 := e 2 (by decide) (by decide)
        rw [if_pos (by omega)]
        unfold J_X12_timeOf_121 pTm
        rw [e0, e1, e2]
        by_cases g : pLo (pCo mi sp) 1 p N ≤ pLo (pCo mi sp) 0 p N
        · rw [if_pos g]
          by_cases g2 : pLo (pCo mi sp) 2 p N ≤ pLo (pCo mi sp) 0 p N
          · rw [if_pos g2, zP_ret]
            exact ⟨bU, Or.inr ⟨by omega, v⟩⟩
          · rw [if_neg g2, zP_ret]
            exact ⟨bU, Or.inr ⟨by omega, v⟩⟩
        · rw [if_neg g]
          by_cases g2 : pLo (pCo mi sp) 2 p N ≤ pLo (pCo mi sp) 1 p N
          · rw [if_pos g2, zP_ret]
            exact ⟨bU, Or.inr ⟨by omega, v⟩⟩
          · rw [if_neg g2, zP_ret]
            exact ⟨bU, Or.inr ⟨by omega, v⟩⟩
      | succ k =>
        have eq : q = k := by omega
        have u89 : U 89 (L % 3) = sp (L % 3) := by
          rw [bU 89 (by decide)]
          exact hx.2.1 _ (by omega) (by omega)
        have sl := hsp (L % 3) (by omega) (by omega)
        rw [if_neg (by omega), zg_in (by omega), zl_in (by omega), zg_in (by omega), zl_in (by omega), zg_in (by omega), u89]
        by_cases g : sp (L % 3) = 0
        · rw [if_pos g, zP_ret]
          refine ⟨bU, Or.inl ⟨rfl, fun v => ?_⟩⟩
          exact (hva.mp v).2 g
        · have u91 : U 91 q = mi k := by
            rw [bU 91 (by decide), eq]
            exact hx.2.2 k (by omega) (by omega)
          have mk := hmi k (by omega) (by omega)
          have ce : (mi k + sp (L % 3) - 1) / sp (L % 3) = pCo mi sp k (L % 3) := by
            unfold pCo
            rw [if_pos mk.1, show max 1 (sp (L % 3)) = sp (L % 3) by omega]
          have z := h93 (L % 3) (by omega) (by omega)
          have cb := pCo_b (mi := mi) (sp := sp) (k := k) (h := L % 3) mk sl
          have c0 := hc k (L % 3)
          have ub := hub (L % 3) p N (by omega) (by omega) (Nat.le_refl _)
          have nn := pLo_nn (h := L % 3) hc (k + 1) L
          rw [if_neg g, zg_in (by omega), zg_in (by omega), zg_in (by omega), zg_in (by omega), u91, zl_in (by omega), zg_in (by omega), ce, zl_in (by omega), zg_in (by omega), zs_in, zl_in (by omega)]
          refine ih (L / 3, q + -1, _) ⟨k, by show q + -1 = (k : Int) - 1; omega, by omega, by show 0 ≤ L / 3 ∧ L / 3 ≤ 10000; omega, bU.up (by decide), fun h h0 h3 => ?_, ?_⟩ (by show (q + -1 + 1).toNat < (q + 1).toNat; omega)
          · show 0 ≤ up U 93 (L % 3) (U 93 (L % 3) + pCo mi sp k (L % 3)) 93 h ∧ up U 93 (L % 3) (U 93 (L % 3) + pCo mi sp k (L % 3)) 93 h + pLo (pCo mi sp) h k (L / 3) = pLo (pCo mi sp) h p N
            have y := h93 h h0 h3
            have e : pLo (pCo mi sp) h (k + 1) L = pLo (pCo mi sp) h k (L / 3) + if L % 3 = h then pCo mi sp k h else 0 := rfl
            rw [e] at y
            rw [up_same]
            by_cases w : h = L % 3
            · rw [if_pos w.symm] at y
              rw [if_pos w, ← w]
              rw [← w] at c0
              omega
            · rw [if_neg (fun t => w t.symm)] at y
              rw [if_neg w]
              omega
          · show pVa sp p N ↔ pVa sp k (L / 3)
            exact hva.trans ⟨fun x => x.1, fun x => ⟨x, g⟩⟩
    · show 0 ≤ T 93 h ∧ T 93 h + pLo (pCo mi sp) h p N = pLo (pCo mi sp) h p N
      rw [c h h0 (by omega)]
      omega
  · obtain ⟨a, b, c⟩ := hJ
    rw [L_X12_timeOf_2.eq_2, if_neg (by omega), zg_in ⟨a.1, hv⟩, zs_in, zl_in (by omega)]
    refine ih _ ⟨by omega, b.up (by decide), fun h h0 h1 => ?_⟩
    rw [up_same]
    split
    · rfl
    · exact c h h0 (by omega)
theorem m_digits {p : Nat} {N a b : Int} {k : HS → zO2} {Q : Int → HS → Prop} (hp : p ≤ 8) (n0 : 0 ≤ N) (n1 : N ≤ 10000) (hk : ∀ T : HS, rSame [92] S T → (∀ j : Int, 0 ≤ j → j < p → T 92 j = pDg p N j) → zP (k T) Q) : zP (L_X12_findPlan_156 k a b zBig N ((p : Int) - 1) S) Q := by
  refine zloopM (F := fun n (y : Int × Int × HS) => L_X12_findPlan_156 k a b n y.1 y.2.1 y.2.2) (fun y => ∃ m : Nat, y.2.1 = (m : Int) - 1 ∧ m ≤ p ∧ (0 ≤ y.1 ∧ y.1 ≤ 10000) ∧ rSame [92] S y.2.2 ∧ (∀ j : Int, m ≤ j → j < p → y.2.2 92 j = pDg p N j) ∧ ∀ j : Int, 0 ≤ j → j < m → pDg p N j = pDg m y.1 j) (fun y => (y.2.1 + 1).toNat) (fun n y hJ ih => ?_) zBig (N, (p : Int) - 1, S) ⟨p, rfl, Nat.le_refl _, ⟨n0, n1⟩, fun _ _ => rfl, fun j a b => by omega, fun _ _ _ => rfl⟩ (by show ((p : Int) - 1 + 1).toNat < zBig; unfold zBig; omega)
  obtain ⟨L, q, U⟩ := y
  obtain ⟨m, hq, hm, hL, bU, h92, hd⟩ := hJ
  simp only at hq hL bU h92 hd ih
  show zP (L_X12_findPlan_156 k a b (n + 1) L q U) Q
  rw [L_X12_findPlan_156.eq_2]
  cases m with
  | zero =>
    rw [if_pos (by omega)]
    exact hk U bU (fun j j0 j1 => h92 j (by omega) j1)
  | succ m =>
    rw [if_neg (by omega), zg_in (by omega), zl_in (by omega), zg_in (by omega), zs_in, zg_in (by omega), zl_in (by omega), zl_in (by omega)]
    refine ih (L / 3, q + -1, _) ⟨m, by show q + -1 = (m : Int) - 1; omega, by omega, by show 0 ≤ L / 3 ∧ L / 3 ≤ 10000; omega, bU.up (by decide), fun j j0 j1 => ?_, fun j j0 j1 => ?_⟩ (by show (q + -1 + 1).toNat < (q + 1).toNat; omega)
    · show up U 92 q (L % 3) 92 j = pDg p N j
      rw [up_same]
      by_cases g : j = q
      · rw [if_pos g, hd j (by omega) (by omega)]
        show L % 3 = if j = m then L % 3 else pDg m (L / 3) j
        rw [if_pos (by omega)]
      · rw [if_neg g]
        exact h92 j (by omega) j1
    · show pDg p N j = pDg m (L / 3) j
      rw [hd j j0 (by omega)]
      show (if j = m then L % 3 else pDg m (L / 3) j) = _
      rw [if_neg (by omega)]
end P3
