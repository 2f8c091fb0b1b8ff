/-! plans: the class searches depth first -/
def pCo (mi sp : Int → Int) (k h : Int) : Int := if 0 ≤ mi k then (mi k + max 1 (sp h) - 1) / max 1 (sp h) else 0
theorem pCo_r {mi sp : Int → Int} {k h : Int} : 0 ≤ pCo mi sp k h := by
  unfold pCo
  split
  · exact Int.ediv_nonneg (by omega) (by omega)
  · exact Int.le_refl _
theorem pCo_b {mi sp : Int → Int} {k h : Int} (hm : 0 ≤ mi k ∧ mi k ≤ 4000) (hs : 0 ≤ sp h ∧ sp h ≤ 3) : pCo mi sp k h ≤ 4000 := by
  have e : sp h = 0 ∨ sp h = 1 ∨ sp h = 2 ∨ sp h = 3 := by omega
  unfold pCo
  rw [if_pos hm.1]
  rcases e with e | e | e | e <;> rw [e]
  · show (mi k + 1 - 1) / 1 ≤ 4000
    omega
  · show (mi k + 1 - 1) / 1 ≤ 4000
    omega
  · show (mi k + 2 - 1) / 2 ≤ 4000
    omega
  · show (mi k + 3 - 1) / 3 ≤ 4000
    omega
theorem upfun {h : HS} {c c' : Nat} {i v : Int} (hc : c' ≠ c) : up h c i v c' = h c' := funext fun j => up_cell h hc i v j
def sFx (S : HS) (sp mi : Int → Int) (p : Nat) : Prop := S 33 6 = p ∧ (∀ h : Int, 0 ≤ h → h < 3 → S 34 h = sp h) ∧ ∀ j : Int, 0 ≤ j → j < p → S 37 j = mi j
theorem e_share {sp mi : Int → Int} {p : Nat} (hp : p ≤ 8) (hsp : ∀ h : Int, 0 ≤ h → h < 3 → 0 ≤ sp h ∧ sp h ≤ 3) (hmi : ∀ j : Int, 0 ≤ j → j < p → 0 ≤ mi j ∧ mi j ≤ 4000) (d : Nat) : ∀ (n f : Nat) (P : Int) (S : HS), n + d = p → d < f → 0 ≤ P → sFx S sp mi p → pVa sp n P → (∀ h : Int, 0 ≤ h → h < 3 → S 35 h = pLo (pCo mi sp) h n P) → (∀ j : Int, 0 ≤ j → j < n → S 38 j = pDg n P j) → pTm (pCo mi sp) n P < S 33 7 → S 33 7 ≤ 1000000 → gB (pCo mi sp) sp p (fun N => pAn d N < P) (S 33 7) (S 39) 1000000 → zP (M_X1_share f n (pTm (pCo mi sp) n P) S) (fun _ T => rSame [33, 35, 38, 39] S T ∧ T 33 6 = p ∧ T 33 7 ≤ 1000000 ∧ (∀ h : Int, 0 ≤ h → h < 3 → T 35 h = pLo (pCo mi sp) h n P) ∧ (∀ j : Int, 0 ≤ j → j < n → T 38 j = pDg n P j) ∧ gB (pCo mi sp) sp p (fun N => pAn d N < P + 1) (T 33 7) (T 39) 1000000) := by
  have hc : ∀ k h : Int, 0 ≤ pCo mi sp k h := fun k h => pCo_r
  have hub : ∀ (h : Int) (n : Nat) (N : Int), 0 ≤ h → h < 3 → n ≤ p → 0 ≤ pLo (pCo mi sp) h n N ∧ pLo (pCo mi sp) h n N ≤ 32000 := by
    intro h n N h0 h3 hn
    have a := pLo_nn (h := h) hc n N
    have b := pLo_ub (c := pCo mi sp) (h := h) (C := 4000) (by decide) n (fun k k0 k1 => pCo_b (hmi k k0 (by omega)) (hsp h h0 h3)) N
    omega
  have htm : ∀ (n : Nat) (N : Int), n ≤ p → 0 ≤ pTm (pCo mi sp) n N ∧ pTm (pCo mi sp) n N ≤ 32000 := by
    intro n N hn
    have a := hub 0 n N (by decide) (by decide) hn
    have b := hub 1 n N (by decide) (by decide) hn
    have e := hub 2 n N (by decide) (by decide) hn
    unfold pTm
    omega
  induction d with
  | zero =>
    intro n f P S hn hf hP hx hv h35 h38 ht hm hb
    obtain ⟨f, rfl⟩ : ∃ g, f = g + 1 := ⟨f - 1, by omega⟩
    have en : n = p := by omega
    subst en
    rw [M_X1_share.eq_2]
    unfold F_X1_share J_X1_share_18
    have tn := htm n P (Nat.le_refl _)
    have zc : ∀ k i, k ≠ 39 → zcpy (up S 33 7 (pTm (pCo mi sp) n P)) 38 39 8 k i = up S 33 7 (pTm (pCo mi sp) n P) k i := fun k i hk => by
      unfold zcpy
      rw [if_neg (fun q => hk q.1)]
    rw [if_pos (by rw [hx.1]; exact Int.le_refl _), zs_in, zs_in, zP_ret]
    refine ⟨fun k hk => ?_, ?_, ?_, fun h h0 h3 => ?_, fun j j0 j1 => ?_, ?_⟩
    · simp only [List.mem_cons, List.not_mem_nil, or_false, not_or] at hk
      funext i
      rw [zc k i hk.2.2.2, up_cell _ hk.1]
    · rw [zc 33 6 (by decide), up_same, if_neg (by decide)]
      exact hx.1
    · rw [zc 33 7 (by decide), up_eq]
      omega
    · rw [zc 35 h (by decide), up_cell _ (by decide)]
      exact h35 h h0 h3
    · rw [zc 38 j (by decide), up_cell _ (by decide)]
      exact h38 j j0 j1
    · rw [zc 33 7 (by decide), up_eq]
      refine hb.set hP (fun N n0 => ?_) hv (Or.inr ht) (fun j j0 j1 => ?_)
      · show N < P + 1 ↔ N < P ∨ N = P
        omega
      · unfold zcpy
        rw [if_pos ⟨rfl, j0, by omega⟩, up_cell _ (by decide)]
        exact h38 j j0 j1
  | succ d ih =>
    intro n f P S hn hf hP hx hv h35 h38 ht hm hb
    obtain ⟨f, rfl⟩ : ∃ g, f = g + 1 := ⟨f - 1, by omega⟩
    have hnp : n < p := by omega
    rw [M_X1_share.eq_2]
    unfold F_X1_share
    rw [if_neg (by rw [hx.1]; omega), if_neg (by omega), if_pos (by omega)]
    refine zloop (b := 3) (fun h T => (0 ≤ h ∧ h ≤ 3) ∧ rSame [33, 35, 38, 39] S T ∧ T 33 6 = p ∧ T 33 7 ≤ 1000000 ∧ (∀ h : Int, 0 ≤ h → h < 3 → T 35 h = pLo (pCo mi sp) h n P) ∧ (∀ j : Int, 0 ≤ j → j < n → T 38 j = pDg n P j) ∧ gB (pCo mi sp) sp p (fun N => pAn d N < 3 * P + h) (T 33 7) (T 39) 1000000) (fun m h T hJ hh => ?_) (fun m h T hJ hh ihl => ?_) _ _ _ ⟨⟨Int.le_refl _, by decide⟩, fun _ _ => rfl, hx.1, hm, h35, h38, hb.cong (fun N n0 => ?_) (fun _ _ _ => rfl)⟩ (zbig (by decide))
    · obtain ⟨a, b, b6, b7, b35, b38, bb⟩ := hJ
      have e : h = 3 := by omega
      subst e
      rw [L_X1_share_41.eq_2, if_pos (by decide), zP_ret]
      refine ⟨b, b6, b7, b35, b38, bb.cong (fun N n0 => ?_) (fun _ _ _ => rfl)⟩
      show pAn d N < 3 * P + 3 ↔ pAn d (N / 3) < P + 1
      rw [pAn_div]
      omega
    · obtain ⟨a, b, b6, b7, b35, b38, bb⟩ := hJ
      have sh := hsp h a.1 hh
      have t34 : T 34 h = sp h := by
        rw [b 34 (by decide)]
        exact hx.2.1 h a.1 hh
      have hn1 : n + 1 + d = p := by omega
      have newN : ∀ N : Int, pAn d N < 3 * P + (h + 1) → ¬ pAn d N < 3 * P + h → pAn d N = 3 * P + h := fun N x y => by omega
      have mono : ∀ M N : Int, pAn d M < 3 * P + h → ¬ pAn d N < 3 * P + h → M ≤ N := by
        intro M N x y
        by_cases q : M ≤ N
        · exact q
        · have := pAn_mono d N M (by omega)
          omega
      rw [L_X1_share_41.eq_2, if_neg (by omega), zg_in ⟨a.1, hh⟩, t34]
      unfold J_X1_share_62
      by_cases g : sp h ≤ 0
      · rw [if_pos g, zl_in (by omega)]
        refine ihl T ⟨by omega, b, b6, b7, b35, b38, bb.more (fun N n0 x => by show pAn d N < 3 * P + (h + 1); have x' : pAn d N < 3 * P + h := x; omega) (fun N n0 x y v => ?_)⟩
        have e := newN N x y
        have v2 := pVa_mono (n + 1) d N (by rw [hn1]; exact v)
        rw [e, pVa_3 (by omega)] at v2
        exact absurd (show sp h = 0 by omega) v2.2
      · rw [if_neg g]
        have t37 : T 37 n = mi n := by
          rw [b 37 (by decide)]
          exact hx.2.2 n (by omega) (by omega)
        have mn := hmi n (by omega) (by omega)
        have cb := pCo_b (mi := mi) (sp := sp) (k := n) (h := h) mn sh
        have c0 := hc n h
        have ce : (mi n + max 1 (sp h) - 1) / max 1 (sp h) = pCo mi sp n h := by
          unfold pCo
          rw [if_pos mn.1]
        have lb := hub h n P a.1 hh (by omega)
        have tn := htm n P (by omega)
        have tmn : max (pTm (pCo mi sp) n P) (pLo (pCo mi sp) h n P + pCo mi sp n h) = pTm (pCo mi sp) (n + 1) (3 * P + h) := (pTm_3 (by omega) hc).symm
        have tn1 := htm (n + 1) (3 * P + h) (by omega)
        unfold M_X1_giveTo
        rw [zg_in ⟨a.1, hh⟩, zg_in (by omega), t37, t34, zl_in (by omega), zg_in (by omega), ce, zl_in (by omega), zg_in ⟨a.1, hh⟩, b35 h a.1 hh, zl_in (by omega), zg_in ⟨a.1, hh⟩, zs_in, zg_in ⟨a.1, hh⟩, up_eq, tmn]
        have u337 : up T 35 h (pLo (pCo mi sp) h n P + pCo mi sp n h) 33 7 = T 33 7 := up_cell _ (by decide) _ _ _
        have back : ∀ U : HS, rSame [33, 35, 38, 39] S U → U 33 6 = p → U 33 7 ≤ 1000000 → (∀ h' : Int, 0 ≤ h' → h' < 3 → U 35 h' = pLo (pCo mi sp) h' (n + 1) (3 * P + h)) → (∀ j : Int, 0 ≤ j → j < n → U 38 j = pDg n P j) → gB (pCo mi sp) sp p (fun N => pAn d N < 3 * P + (h + 1)) (U 33 7) (U 39) 1000000 → zP (J_X1_giveTo_76 (M_X1_share f) h (pCo mi sp n h) U) (fun _ V => zP (zl (h + 1) fun x9 => L_X1_share_41 (M_X1_share f) n (pTm (pCo mi sp) n P) m x9 V) (fun _ T => rSame [33, 35, 38, 39] S T ∧ T 33 6 = p ∧ T 33 7 ≤ 1000000 ∧ (∀ h : Int, 0 ≤ h → h < 3 → T 35 h = pLo (pCo mi sp) h n P) ∧ (∀ j : Int, 0 ≤ j → j < n → T 38 j = pDg n P j) ∧ gB (pCo mi sp) sp p (fun N => pAn (d + 1) N < P + 1) (T 33 7) (T 39) 1000000)) := by
          intro U u1 u6 u7 u35 u38 ub
          have uh := u35 h a.1 hh
          rw [pLo_3 (by omega), if_pos rfl] at uh
          unfold J_X1_giveTo_76
          rw [zg_in ⟨a.1, hh⟩, zl_in (by omega), zg_in ⟨a.1, hh⟩, zs_in, zP_ret, zl_in (by omega)]
          refine ihl _ ⟨by omega, u1.up (by decide), by rw [up_cell _ (by decide)]; exact u6, by rw [up_cell _ (by decide)]; exact u7, fun h' x0 x3 => ?_, fun j j0 j1 => ?_, ?_⟩
          · rw [up_same]
            by_cases q : h' = h
            · rw [if_pos q, q, uh]
              omega
            · have := u35 h' x0 x3
              rw [pLo_3 (by omega), if_neg (fun z => q z.symm)] at this
              rw [if_neg q, this]
              omega
          · rw [up_cell _ (by decide)]
            exact u38 j j0 j1
          · rw [up_cell _ (by decide), upfun (show (39 : Nat) ≠ 35 by decide)]
            exact ub
        by_cases g2 : up T 35 h (pLo (pCo mi sp) h n P + pCo mi sp n h) 33 7 ≤ pTm (pCo mi sp) (n + 1) (3 * P + h)
        · rw [if_pos g2, zP_zb]
          rw [u337] at g2
          refine back _ (b.up (by decide)) (by rw [up_cell _ (by decide)]; exact b6) (by rw [u337]; exact b7) (fun h' x0 x3 => ?_) (fun j j0 j1 => ?_) ?_
          · rw [up_same, pLo_3 (by omega)]
            by_cases q : h' = h
            · rw [if_pos q, q, if_pos rfl]
            · rw [if_neg q, if_neg (fun z => q z.symm), b35 h' x0 x3]
              omega
          · rw [up_cell _ (by decide)]
            exact b38 j j0 j1
          · rw [u337, upfun (show (39 : Nat) ≠ 35 by decide)]
            refine bb.more (fun N n0 x => by show pAn d N < 3 * P + (h + 1); have x' : pAn d N < 3 * P + h := x; omega) (fun N n0 x y v => ?_)
            have e := newN N x y
            have k := pTm_mono hc (n + 1) d N
            rw [e, hn1] at k
            exact ⟨by omega, by omega, fun M hM => mono M N hM y⟩
        · rw [if_neg g2, zg_in (by omega), zs_in, zl_in (by omega), zP_zb, zP_zb]
          rw [u337] at g2
          have en : ((n : Int) + 1) = ((n + 1 : Nat) : Int) := rfl
          rw [en]
          refine zP_mono (ih (n + 1) f (3 * P + h) _ hn1 (by omega) (by omega) ⟨?_, fun h' x0 x3 => ?_, fun j j0 j1 => ?_⟩ ((pVa_3 (by omega)).mpr ⟨hv, by omega⟩) (fun h' x0 x3 => ?_) (fun j j0 j1 => ?_) ?_ ?_ ?_) (fun _ U hU => ?_)
          · rw [up_cell _ (by decide), up_cell _ (by decide)]
            exact b6
          · rw [up_cell _ (by decide), up_cell _ (by decide), b 34 (by decide)]
            exact hx.2.1 h' x0 x3
          · rw [up_cell _ (by decide), up_cell _ (by decide), b 37 (by decide)]
            exact hx.2.2 j j0 j1
          · rw [up_cell _ (by decide), up_same, pLo_3 (by omega)]
            by_cases q : h' = h
            · rw [if_pos q, q, if_pos rfl]
            · rw [if_neg q, if_neg (fun z => q z.symm), b35 h' x0 x3]
              omega
          · rw [up_same, pDg_3 (by omega)]
            by_cases q : j = n
            · rw [if_pos q, if_pos q]
            · rw [if_neg q, if_neg q, up_cell _ (by decide)]
              exact b38 j j0 (by omega)
          · rw [up_cell _ (by decide), u337]
            omega
          · rw [up_cell _ (by decide), u337]
            exact b7
          · rw [up_cell _ (by decide), u337, upfun (show (39 : Nat) ≠ 38 by decide), upfun (show (39 : Nat) ≠ 35 by decide)]
            exact bb
          · obtain ⟨u1, u6, u7, u35, u38, ub⟩ := hU
            refine back U ((b.up (by decide)).up (by decide) |>.trans u1) u6 u7 u35 (fun j j0 j1 => ?_) (ub.cong (fun N n0 => ?_) (fun _ _ _ => rfl))
            · rw [u38 j j0 (by omega), pDg_3 (by omega), if_neg (by omega)]
            · show pAn d N < 3 * P + h + 1 ↔ pAn d N < 3 * P + (h + 1)
              omega
    · show pAn d (N / 3) < P ↔ pAn d N < 3 * P + 0
      rw [pAn_div]
      omega
