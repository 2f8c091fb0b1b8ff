/-! settled anew: added, cell -/
def msk (V : HS) : HS := fun k i => if (17 ≤ k ∧ k ≤ 22) ∨ (29 ≤ k ∧ k ≤ 31) then 0 else V k i
def iRest (S : HS) : Prop := iLen S ∧ iTape S ∧ iWords S ∧ iPart S ∧ iRow S ∧ iMark S ∧ iAdd S ∧ iProg S ∧ iCrew S
theorem iLen_m {S : HS} : iLen (msk S) = iLen S := rfl
theorem iTape_m {S : HS} : iTape (msk S) = iTape S := rfl
theorem iWords_m {S : HS} : iWords (msk S) = iWords S := rfl
theorem iPart_m {S : HS} : iPart (msk S) = iPart S := rfl
theorem iRow_m {S : HS} : iRow (msk S) = iRow S := rfl
theorem iMark_m {S : HS} : iMark (msk S) = iMark S := rfl
theorem iAdd_m {S : HS} : iAdd (msk S) = iAdd S := rfl
theorem iProg_m {S : HS} : iProg (msk S) = iProg S := rfl
theorem iCrew_m {S : HS} : iCrew (msk S) = iCrew S := rfl
theorem iRest_m {S : HS} : iRest (msk S) = iRest S := rfl
theorem iAll.rest {S : HS} (h : iAll S) : iRest S := ⟨h.1, h.2.1, h.2.2.1, h.2.2.2.1, h.2.2.2.2.1, h.2.2.2.2.2.1, h.2.2.2.2.2.2.1, h.2.2.2.2.2.2.2.1, h.2.2.2.2.2.2.2.2.1⟩
theorem iAll_mk {S : HS} (h : iRest S) (e : iReg S) (k : iTak S) (b : iBrd S) : iAll S := ⟨h.1, h.2.1, h.2.2.1, h.2.2.2.1, h.2.2.2.2.1, h.2.2.2.2.2.1, h.2.2.2.2.2.2.1, h.2.2.2.2.2.2.2.1, h.2.2.2.2.2.2.2.2, e, k, b⟩
theorem msk_fr {A : List Nat} {O : List (Nat × Int)} {S T : HS} (hA : (A.all fun k => (17 ≤ k && k ≤ 22) || (29 ≤ k && k ≤ 31)) = true) (hO : (O.all fun q => q.1 == 17) = true) (h : zFr A O S T) : msk T = msk S := by
  funext k i
  unfold msk
  by_cases c : (17 ≤ k ∧ k ≤ 22) ∨ (29 ≤ k ∧ k ≤ 31)
  · rw [if_pos c, if_pos c]
  · rw [if_neg c, if_neg c]
    refine h k i (fun m => ?_) (fun m => ?_)
    · have h1 := List.all_eq_true.mp hA k m
      simp only [Bool.or_eq_true, Bool.and_eq_true, decide_eq_true_eq] at h1
      exact c h1
    · have h1 := List.all_eq_true.mp hO (k, i) m
      simp only [beq_iff_eq] at h1
      omega
theorem msk_up {S T : HS} {k : Nat} {i v : Int} (h : msk T = msk S) : msk (up T k i v) = msk (up S k i v) := by
  funext k' i'
  have e := congrFun (congrFun h k') i'
  unfold msk at e ⊢
  rw [up_at, up_at]
  by_cases c : (17 ≤ k' ∧ k' ≤ 22) ∨ (29 ≤ k' ∧ k' ≤ 31)
  · rw [if_pos c, if_pos c]
  · rw [if_neg c, if_neg c] at e
    rw [if_neg c, if_neg c, e]
theorem iRest_msk {S T : HS} (hI : iRest S) (h : msk T = msk S) : iRest T := by
  rw [← iRest_m, h, iRest_m]
  exact hI
section ST
variable {S : HS}
theorem own_r2 (hH : cHair S) (iK : iTak S) {r k : Int} (r0 : 0 ≤ r) (r1 : r < S 7 11) (k0 : 0 ≤ k) (k1 : k < S 10 r) : 0 ≤ S 21 (cel S r k) ∧ S 21 (cel S r k) ≤ 19008 := by
  rw [iK.2.2.2 r k r0 r1 k0 k1]
  have := zsum_bd (f := fun c => if S 19 c = 200 * r + k then S 2 c else 0) (n := 192) (c := 99) (fun i i0 i1 => by
    show 0 ≤ (if S 19 i = 200 * r + k then S 2 i else 0) ∧ (if S 19 i = 200 * r + k then S 2 i else 0) ≤ 99
    have a := hH i i0 (by omega)
    have b := (iK.2.1 i i0 (by omega)).1
    split
    · by_cases g : S 2 i = -1
      · have := b g
        omega
      · omega
    · omega)
  omega
theorem add_r2 (iA : iAdd S) {c : Int} (c0 : 0 ≤ c) (c1 : c < 192) : 0 ≤ S 12 c ∧ S 12 c ≤ 5940 := by
  rw [iA.2.2.1 c c0 c1]
  have h0 := iA.1
  have := zsum_bd (f := fun i => if cel S (S 24 i) (S 25 i) = c then S 26 i else 0) (n := (S 23 4).toNat) (c := 99) (fun i i0 i1 => by
    show 0 ≤ (if cel S (S 24 i) (S 25 i) = c then S 26 i else 0) ∧ (if cel S (S 24 i) (S 25 i) = c then S 26 i else 0) ≤ 99
    have a := iA.2.1 i i0 (by omega)
    split <;> omega)
  omega
theorem gBo_mk (hR : cRow S) (hH : cHair S) (iK : iTak S) (hA : ∀ c : Int, 0 ≤ c → c < 192 → 0 ≤ S 12 c ∧ S 12 c ≤ 5940) {r : Int} (r0 : 0 ≤ r) (r1 : r < S 7 11) : gBo (cel S r) (S 21) (S 12) (S 10 r) := by
  intro k k0 k1
  have c := cel_r hR r0 r1 k0 k1
  exact ⟨own_r2 hH iK r0 r1 k0 k1, hA _ c.1 c.2⟩
theorem e_settle11 (hW : WR shF S) (hR : cRow S) (hH : cHair S) (hA : ∀ c : Int, 0 ≤ c → c < 192 → 0 ≤ S 12 c ∧ S 12 c ≤ 5940) : zP (M_X11_settle S) (fun _ T => (iReg T ∧ iTak T ∧ iBrd T) ∧ WR shF T ∧ msk T = msk S) := by
  unfold M_X11_settle
  rw [zP_zb]
  refine zP_mono (zP_W (W_M_X8_settle hW) (e_settle8 hW hR hH)) (fun _ T1 h1 => ?_)
  obtain ⟨⟨g1, g2⟩, -, w1, f1⟩ := h1
  have R1 : cRow T1 := cRow_fr hR (f1.cell 2 (by decide) (by decide)) (f1.cell 7 (by decide) (by decide)) (f1.cell 8 (by decide) (by decide)) (f1.cell 9 (by decide) (by decide)) (f1.cell 10 (by decide) (by decide)) (f1.cell 11 (by decide) (by decide))
  have H1 : cHair T1 := by
    unfold cHair
    rw [f1.cell 2 (by decide) (by decide)]
    exact hH
  have A1 : ∀ c : Int, 0 ≤ c → c < 192 → 0 ≤ T1 12 c ∧ T1 12 c ≤ 5940 := by
    rw [f1.cell 12 (by decide) (by decide)]
    exact hA
  rw [zP_zb]
  refine zP_mono (zP_W (W_M_X0_settle w1) (e_settle0 R1 (fun q q0 q1 => gBo_mk R1 H1 g2 A1 q0 q1))) (fun _ T2 h2 => ?_)
  obtain ⟨⟨s2, b2⟩, -, w2, f2⟩ := h2
  rw [zP_ret]
  have e : ∀ k : Nat, k ∉ [29, 30, 31] → T2 k = T1 k := s2
  refine ⟨⟨?_, ?_, b2⟩, w2, (msk_fr (by decide) (by decide) f2).trans (msk_fr (by decide) (by decide) f1)⟩
  · unfold iReg
    rw [e 2 (by decide), e 4 (by decide), e 18 (by decide), e 17 (by decide)]
    exact g1
  · unfold iTak cel
    rw [e 2 (by decide), e 4 (by decide), e 11 (by decide), e 19 (by decide), e 7 (by decide), e 10 (by decide), e 17 (by decide), e 21 (by decide), e 8 (by decide), e 9 (by decide)]
    exact g2
theorem ok_0 (hI : Inv S) : OK_0 Inv S := by
  intro q1 q2 q3 h1 h2 h3
  obtain ⟨hW, iL, iT, iW, iP, iR, iM, iA, iG, iC, iE, iK, iB⟩ := id hI
  have k0 : iAll (up S 51 0 0) := iAll_thr hI.2 0
  have p1 := iP.2.1
  have r1 := iR.1.1
  have l4 := iL.2.2.2.1
  refine zcallQ hW (W_M_X11_cell h1 h2 h3 hW) (fun T w => W_M_X12_cell h1 h2 h3 w) ?_
  by_cases d : (0 ≤ q1 ∧ q1 < 16 ∧ 0 ≤ q2 ∧ q2 < 12) ∧ (-1 ≤ q3 ∧ q3 ≤ 99) ∧ S 3 3 = 0 ∧ S 7 11 = 0 ∧ S 1 2 = 0
  · obtain ⟨d1, d2, d3, d4, d5⟩ := d
    have e0 := gAt_in d1
    have c0 : 0 ≤ 16 * q2 + q1 ∧ 16 * q2 + q1 < 192 := by omega
    unfold M_X11_cell M_X2_putHairs
    rw [e_at, zb_some, e0, if_neg (by omega), if_neg (by omega), if_neg (by omega), e_untouched, zb_some, zif1 ⟨d3, d4, d5⟩, if_neg (by decide), e_cell, zb_some, zif1 c0, if_neg (by decide), zg_in c0, zs_in, zb_some, zP_zb]
    generalize hc : 16 * q2 + q1 = c at c0 ⊢
    have WA : WR shF (up S 2 c q3) := hW.up (q := .inl (.int, 192)) (by decide +kernel) h3
    have RA : cRow (up S 2 c q3) := by
      refine ⟨iR.c.1, fun r a b => ?_, fun r k a b => ?_, fun e a b => ?_⟩
      · have b' : r < S 7 11 := b
        omega
      · have b' : r < S 7 11 := b
        omega
      · rcases iR.c.2.2.2 e a b with x | ⟨r, k, x1, x2, x3⟩
        · exact Or.inl x
        · omega
    have HA : cHair (up S 2 c q3) := by
      intro e a b
      rw [up_same]
      split
      · omega
      · have := iP.1.1 e a b
        omega
    refine zP_mono (e_settle11 WA RA HA (fun e a b => add_r2 iA a b)) (fun _ T hT => ?_)
    obtain ⟨⟨g1, g2, g3⟩, wT, hm⟩ := hT
    rw [zP_ret]
    intro _
    have t : ∀ k : Nat, ¬ ((17 ≤ k ∧ k ≤ 22) ∨ (29 ≤ k ∧ k ≤ 31)) → T k = up S 2 c q3 k := by
      intro k hk
      funext i
      have e := congrFun (congrFun hm k) i
      unfold msk at e
      rw [if_neg hk, if_neg hk] at e
      exact e
    unfold M_X12_cell
    rw [zs_in, m_cell, zb_some, zif1 d1, if_neg (by decide), if_neg (by omega), if_neg (by omega), m_mayTell, zb_some]
    have t51 : ∀ i : Int, i ≠ 0 → up T 51 0 0 51 i = S 51 i := fun i hi => by
      rw [up_same, if_neg hi, t 51 (by decide)]
      rfl
    rw [zif1 ⟨by rw [t51 22 (by decide)]; omega, by rw [t51 27 (by decide)]; omega, by rw [t51 38 (by decide)]; omega⟩, if_neg (by decide), hc, zg_in c0, zs_in, zP_ret]
    refine ⟨rfl, iAll_mk (iRest_msk (S := up (up (up S 2 c q3) 51 0 0) 67 c q3) ?_ (msk_up (msk_up hm))) g1 g2 g3⟩
    refine ⟨iL, iT, iW, ⟨⟨fun e a b => ?_, iP.1.2⟩, iP.2⟩, ⟨iR.1, fun r a b => ?_, fun r k a b => ?_, fun e a b => ?_⟩, iM, iA, iG, iC⟩
    · have z := iP.1.1 e a b
      show up (up (up S 2 c q3) 51 0 0) 67 c q3 67 e = up (up (up S 2 c q3) 51 0 0) 67 c q3 2 e ∧ -1 ≤ up (up (up S 2 c q3) 51 0 0) 67 c q3 2 e ∧ up (up (up S 2 c q3) 51 0 0) 67 c q3 2 e ≤ 99
      rw [up_same, up_cell _ (by decide), up_cell _ (by decide), up_cell _ (by decide), up_cell _ (by decide), up_same]
      by_cases g : e = c
      · rw [if_pos g, if_pos g]
        omega
      · rw [if_neg g, if_neg g]
        exact z
    · have b' : r < S 7 11 := b
      omega
    · have b' : r < S 7 11 := b
      omega
    · rcases iR.2.2.2 e a b with x | ⟨r, k, x1, x2, x3⟩
      · exact Or.inl x
      · omega
  · have m : zP (M_X12_cell q1 q2 q3 S) (fun r' U => r' = 0 ∧ iAll U) := by
      unfold M_X12_cell
      rw [zs_in, m_cell, zb_some, m_mayTell, zb_some]
      have u22 : up S 51 0 0 51 22 = S 3 3 := p1
      have u27 : up S 51 0 0 51 27 = S 7 11 := r1
      have u38 : up S 51 0 0 51 38 = S 1 2 := l4
      rw [u22, u27, u38]
      by_cases a : 0 ≤ q1 ∧ q1 < 16 ∧ 0 ≤ q2 ∧ q2 < 12
      · rw [zif1 a, if_neg (by decide)]
        by_cases b : q3 < -1
        · rw [if_pos b, zP_ret]
          exact ⟨rfl, k0⟩
        · rw [if_neg b]
          by_cases b2 : 99 < q3
          · rw [if_pos b2, zP_ret]
            exact ⟨rfl, k0⟩
          · rw [if_neg b2, zif0 (fun z => d ⟨a, by omega, z⟩), if_pos rfl, zP_ret]
            exact ⟨rfl, k0⟩
      · rw [zif0 a, if_pos rfl, zP_ret]
        exact ⟨rfl, k0⟩
    unfold M_X11_cell
    rw [e_at, zb_some, e_untouched, zb_some]
    by_cases a : 0 ≤ q1 ∧ q1 < 16 ∧ 0 ≤ q2 ∧ q2 < 12
    · have e0 := gAt_in a
      rw [if_neg (by omega)]
      by_cases b : q3 < -1
      · rw [if_pos b, zP_ret]
        exact fun _ => m
      · rw [if_neg b]
        by_cases b2 : 99 < q3
        · rw [if_pos b2, zP_ret]
          exact fun _ => m
        · rw [if_neg b2, zif0 (fun z => d ⟨a, by omega, z⟩), if_pos rfl, zP_ret]
          exact fun _ => m
    · rw [gAt_out a, if_pos rfl, zP_ret]
      exact fun _ => m
theorem e_put3 {a b c d : Int} (h : 0 ≤ S 23 4 ∧ S 23 4 < 60) : M_X3_put a b c d S = some (0, up (up (up (up (up S 24 (S 23 4) a) 25 (S 23 4) b) 26 (S 23 4) c) 27 (S 23 4) d) 23 4 (S 23 4 + 1)) := by
  unfold M_X3_put
  rw [if_neg (by omega), zg_in h, zs_in]
  have e1 : up S 24 (S 23 4) a 23 4 = S 23 4 := rfl
  rw [e1, zg_in h, zs_in]
  have e2 : up (up S 24 (S 23 4) a) 25 (S 23 4) b 23 4 = S 23 4 := rfl
  rw [e2, zg_in h, zs_in]
  have e3 : up (up (up S 24 (S 23 4) a) 25 (S 23 4) b) 26 (S 23 4) c 23 4 = S 23 4 := rfl
  rw [e3, zg_in h, zs_in]
  have e4 : up (up (up (up S 24 (S 23 4) a) 25 (S 23 4) b) 26 (S 23 4) c) 27 (S 23 4) d 23 4 = S 23 4 := rfl
  rw [e4, zl_in (by omega), zs_in]
theorem ok_10 (hI : Inv S) : OK_10 Inv S := by
  intro q1 q2 q3 q4 h1 h2 h3 h4
  obtain ⟨hW, iL, iT, iW, iP, iR, iM, iA, iG, iC, iE, iK, iB⟩ := id hI
  have k0 : iAll (up S 51 0 0) := iAll_thr hI.2 0
  have r0 := iR.1
  have hR := iR.c
  have a0 := iA.1
  refine zcallQ hW (W_M_X11_added h1 h2 h3 h4 hW) (fun T w => W_M_X12_added h1 h2 h3 h4 w) ?_
  have e51 : up S 51 0 0 51 27 = S 51 27 := rfl
  have step : ∀ T : HS, T 51 27 = S 7 11 → T 69 = S 69 → M_X12_isStepOf q1 q2 T = some (if (0 ≤ q1 ∧ q1 < S 7 11) ∧ 0 ≤ q2 ∧ q2 < S 10 q1 then 1 else 0, T) := by
    intro T e e'
    rw [m_isStepOf (by omega), e, e']
    by_cases g : 0 ≤ q1 ∧ q1 < S 7 11
    · rw [iR.m.2.1 q1 g.1 g.2]
      by_cases g2 : 0 ≤ q2 ∧ q2 < S 10 q1
      · rw [zif1 ⟨g.1, g.2, g2⟩, zif1 ⟨g, g2⟩]
      · rw [zif0 (fun k => g2 k.2.2), zif0 (fun k => g2 k.2)]
    · rw [zif0 (fun k => g ⟨k.1, k.2.1⟩), zif0 (fun k => g k.1)]
  by_cases d : ((0 ≤ q1 ∧ q1 < S 7 11) ∧ 0 ≤ q2 ∧ q2 < S 10 q1) ∧ (1 ≤ q3 ∧ q3 ≤ 99) ∧ (20 ≤ q4 ∧ q4 ≤ 2000) ∧ S 23 4 < 60
  · obtain ⟨d1, d2, d3, d4⟩ := d
    have cr := cel_r hR d1.1.1 d1.1.2 d1.2.1 d1.2.2
    have r24 := r0.2.2.1
    have t13 := (m_timesAdded hI.2.s d1.1.1 d1.1.2).2
    have a12 := add_r2 iA cr.1 cr.2
    unfold M_X11_added J_X11_added_24
    rw [if_neg (by omega), if_neg (by omega), e_isLength, zb_some, zif1 d3, if_neg (by decide), e_cellIn1 hR d1.1.1 d1.1.2 d1.2.1 d1.2.2, zb_some, if_neg (by omega), if_neg (by decide), if_pos d4, e_put3 ⟨a0.2.1, d4⟩, zb_some]
    generalize hn : S 23 4 = n at *
    generalize hA : up (up (up (up (up S 24 n q1) 25 n q2) 26 n q3) 27 n q4) 23 4 (n + 1) = A
    have eA : ∀ k : Nat, k ≠ 23 → k ≠ 24 → k ≠ 25 → k ≠ 26 → k ≠ 27 → A k = S k := by
      intro k x1 x2 x3 x4 x5
      funext i
      rw [← hA, up_cell _ x1, up_cell _ x5, up_cell _ x4, up_cell _ x3, up_cell _ x2]
    have RA : cRow A := cRow_fr hR (eA 2 (by decide) (by decide) (by decide) (by decide) (by decide)) (eA 7 (by decide) (by decide) (by decide) (by decide) (by decide)) (eA 8 (by decide) (by decide) (by decide) (by decide) (by decide)) (eA 9 (by decide) (by decide) (by decide) (by decide) (by decide)) (eA 10 (by decide) (by decide) (by decide) (by decide) (by decide)) (eA 11 (by decide) (by decide) (by decide) (by decide) (by decide))
    have a7 : A 7 11 = S 7 11 := by rw [eA 7 (by decide) (by decide) (by decide) (by decide) (by decide)]
    have a13 : A 13 = S 13 := eA 13 (by decide) (by decide) (by decide) (by decide) (by decide)
    have a12' : A 12 = S 12 := eA 12 (by decide) (by decide) (by decide) (by decide) (by decide)
    unfold M_X6_noteAdded
    rw [e_has1 RA d1.1.1 (by rw [a7]; exact d1.1.2), zb_some, if_neg (by decide), e_cell, zb_some, zif1 cr, if_neg (by decide), zg_in (by omega), a13, zl_in (by omega), zg_in (by omega), zs_in, zg_in cr, up_cell _ (show (12 : Nat) ≠ 13 by decide), a12', zl_in (by omega), zg_in cr, zs_in, zb_some, zP_zb]
    generalize hc : cel S q1 q2 = c at *
    generalize hB : up (up A 13 q1 (S 13 q1 + 1)) 12 c (S 12 c + q3) = B
    -- the state when both have added
    have iX : iAdd (up (up (up (up (up (up B 51 0 0) 79 n q1) 80 n q2) 81 n q3) 82 n q4) 51 43 (n + 1)) := by
      have f24 : ∀ i : Int, B 24 i = if i = n then q1 else S 24 i := fun i => by
        rw [← hB, ← hA, up_cell _ (by decide), up_cell _ (by decide), up_cell _ (by decide), up_cell _ (by decide), up_cell _ (by decide), up_cell _ (by decide), up_same]
      have f25 : ∀ i : Int, B 25 i = if i = n then q2 else S 25 i := fun i => by
        rw [← hB, ← hA, up_cell _ (by decide), up_cell _ (by decide), up_cell _ (by decide), up_cell _ (by decide), up_cell _ (by decide), up_same, up_cell _ (by decide)]
      have f26 : ∀ i : Int, B 26 i = if i = n then q3 else S 26 i := fun i => by
        rw [← hB, ← hA, up_cell _ (by decide), up_cell _ (by decide), up_cell _ (by decide), up_cell _ (by decide), up_same, up_cell _ (by decide), up_cell _ (by decide)]
      have f27 : ∀ i : Int, B 27 i = if i = n then q4 else S 27 i := fun i => by
        rw [← hB, ← hA, up_cell _ (by decide), up_cell _ (by decide), up_cell _ (by decide), up_same, up_cell _ (by decide), up_cell _ (by decide), up_cell _ (by decide)]
      have f23 : B 23 4 = n + 1 := by
        rw [← hB, ← hA, up_cell _ (by decide), up_cell _ (by decide), up_eq]
      have f13 : ∀ i : Int, B 13 i = if i = q1 then S 13 q1 + 1 else S 13 i := fun i => by
        rw [← hB, up_cell _ (by decide), up_same, a13]
      have f12 : ∀ i : Int, B 12 i = if i = c then S 12 c + q3 else S 12 i := fun i => by
        rw [← hB, up_same, up_cell _ (by decide), a12']
      have fo : ∀ k : Nat, k ≠ 23 → k ≠ 24 → k ≠ 25 → k ≠ 26 → k ≠ 27 → k ≠ 13 → k ≠ 12 → B k = S k := by
        intro k x1 x2 x3 x4 x5 x6 x7
        rw [← eA k x1 x2 x3 x4 x5]
        funext i
        rw [← hB, up_cell _ x7, up_cell _ x6]
      have cB : cel B = cel S := by
        funext x y
        unfold cel
        rw [fo 8 (by decide) (by decide) (by decide) (by decide) (by decide) (by decide) (by decide), fo 9 (by decide) (by decide) (by decide) (by decide) (by decide) (by decide) (by decide)]
      have b7 : B 7 = S 7 := fo 7 (by decide) (by decide) (by decide) (by decide) (by decide) (by decide) (by decide)
      have b10 : B 10 = S 10 := fo 10 (by decide) (by decide) (by decide) (by decide) (by decide) (by decide) (by decide)
      have nn : (n + 1).toNat = n.toNat + 1 := by omega
      have nc : (n.toNat : Int) = n := Int.toNat_of_nonneg (by omega)
      refine ⟨⟨?_, ?_, ?_⟩, fun i i0 i1 => ?_, fun e e0 e1 => ?_, fun r r0 r1 => ?_⟩
      · show n + 1 = B 23 4
        rw [f23]
      · show 0 ≤ B 23 4
        rw [f23]
        omega
      · show B 23 4 ≤ 60
        rw [f23]
        omega
      · have i1' : i < n + 1 := by rw [← f23]; exact i1
        show (up (up (up (up (up (up B 51 0 0) 79 n q1) 80 n q2) 81 n q3) 82 n q4) 51 43 (n + 1) 79 i = B 24 i ∧ up (up (up (up (up (up B 51 0 0) 79 n q1) 80 n q2) 81 n q3) 82 n q4) 51 43 (n + 1) 80 i = B 25 i ∧ up (up (up (up (up (up B 51 0 0) 79 n q1) 80 n q2) 81 n q3) 82 n q4) 51 43 (n + 1) 81 i = B 26 i ∧ up (up (up (up (up (up B 51 0 0) 79 n q1) 80 n q2) 81 n q3) 82 n q4) 51 43 (n + 1) 82 i = B 27 i) ∧ 0 ≤ B 24 i ∧ B 24 i < B 7 11 ∧ 0 ≤ B 25 i ∧ B 25 i < B 10 (B 24 i) ∧ 1 ≤ B 26 i ∧ B 26 i ≤ 99 ∧ 20 ≤ B 27 i ∧ B 27 i ≤ 2000
        have u79 : up (up (up (up (up (up B 51 0 0) 79 n q1) 80 n q2) 81 n q3) 82 n q4) 51 43 (n + 1) 79 i = if i = n then q1 else S 79 i := by
          rw [up_cell _ (by decide), up_cell _ (by decide), up_cell _ (by decide), up_cell _ (by decide), up_same, up_cell _ (by decide), fo 79 (by decide) (by decide) (by decide) (by decide) (by decide) (by decide) (by decide)]
        have u80 : up (up (up (up (up (up B 51 0 0) 79 n q1) 80 n q2) 81 n q3) 82 n q4) 51 43 (n + 1) 80 i = if i = n then q2 else S 80 i := by
          rw [up_cell _ (by decide), up_cell _ (by decide), up_cell _ (by decide), up_same, up_cell _ (by decide), up_cell _ (by decide), fo 80 (by decide) (by decide) (by decide) (by decide) (by decide) (by decide) (by decide)]
        have u81 : up (up (up (up (up (up B 51 0 0) 79 n q1) 80 n q2) 81 n q3) 82 n q4) 51 43 (n + 1) 81 i = if i = n then q3 else S 81 i := by
          rw [up_cell _ (by decide), up_cell _ (by decide), up_same, up_cell _ (by decide), up_cell _ (by decide), up_cell _ (by decide), fo 81 (by decide) (by decide) (by decide) (by decide) (by decide) (by decide) (by decide)]
        have u82 : up (up (up (up (up (up B 51 0 0) 79 n q1) 80 n q2) 81 n q3) 82 n q4) 51 43 (n + 1) 82 i = if i = n then q4 else S 82 i := by
          rw [up_cell _ (by decide), up_same, up_cell _ (by decide), up_cell _ (by decide), up_cell _ (by decide), up_cell _ (by decide), fo 82 (by decide) (by decide) (by decide) (by decide) (by decide) (by decide) (by decide)]
        rw [u79, u80, u81, u82, f24, f25, f26, f27, b7, b10]
        by_cases g : i = n
        · have y : ∀ a b : Int, (if i = n then a else b) = a := fun a b => if_pos g
          refine ⟨by simp only [y, and_self], ?_⟩
          simp only [y]
          omega
        · have y : ∀ a b : Int, (if i = n then a else b) = b := fun a b => if_neg g
          simp only [y]
          exact iA.2.1 i i0 (by omega)
      · show B 12 e = zsum (fun i => if cel B (B 24 i) (B 25 i) = e then B 26 i else 0) (B 23 4).toNat
        rw [f23, nn, zsum_s, nc, cB, f24, f25, f26, if_pos rfl, if_pos rfl, if_pos rfl, hc, f12]
        have s := iA.2.2.1 e e0 e1
        rw [hn] at s
        rw [zsum_congr (g := fun i => if cel S (S 24 i) (S 25 i) = e then S 26 i else 0) (fun i i0 i1 => by
          show (if cel S (B 24 i) (B 25 i) = e then B 26 i else 0) = if cel S (S 24 i) (S 25 i) = e then S 26 i else 0
          rw [f24, f25, f26, if_neg (show ¬ i = n by omega), if_neg (show ¬ i = n by omega), if_neg (show ¬ i = n by omega)]), ← s]
        by_cases g : e = c
        · rw [if_pos g, if_pos g.symm, g]
        · rw [if_neg g, if_neg (fun q => g q.symm), Int.add_zero]
      · have r1' : r < S 7 11 := by rw [← b7]; exact r1
        show B 13 r = zsum (fun i => if B 24 i = r then 1 else 0) (B 23 4).toNat
        rw [f23, nn, zsum_s, nc, f24, if_pos rfl, f13]
        have s := iA.2.2.2 r r0 r1'
        rw [hn] at s
        rw [zsum_congr (g := fun i => if S 24 i = r then 1 else 0) (fun i i0 i1 => by
          show (if B 24 i = r then (1 : Int) else 0) = if S 24 i = r then 1 else 0
          rw [f24, if_neg (show ¬ i = n by omega)]), ← s]
        by_cases g : r = q1
        · rw [if_pos g, if_pos g.symm, g]
        · rw [if_neg g, if_neg (fun q => g q.symm), Int.add_zero]
    have iK' : iTak (up (up (up (up (up (up B 51 0 0) 79 n q1) 80 n q2) 81 n q3) 82 n q4) 51 43 (n + 1)) := by
      rw [← hB, ← hA]
      exact iK
    have X : iRest (up (up (up (up (up (up B 51 0 0) 79 n q1) 80 n q2) 81 n q3) 82 n q4) 51 43 (n + 1)) := by
      refine ⟨?_, ?_, ?_, ?_, ?_, ?_, iX, ?_, ?_⟩ <;> rw [← hB, ← hA] <;> assumption
    have RB : cRow B := X.2.2.2.2.1.c
    have HB : cHair B := fun e a b => by
      have := X.2.2.2.1.1.1 e a b
      exact this.2
    have AB : ∀ e : Int, 0 ≤ e → e < 192 → 0 ≤ B 12 e ∧ B 12 e ≤ 5940 := fun e a b => add_r2 iX a b
    have iKB : iTak B := iK'
    refine zP_mono (e_settle0 RB (fun q q0 q1 => gBo_mk RB HB iKB AB q0 q1)) (fun _ T hT => ?_)
    obtain ⟨s1, bT⟩ := hT
    rw [zP_ret]
    intro _
    have t51 : T 51 = B 51 := s1 51 (by decide)
    have b51 : ∀ i : Int, B 51 i = S 51 i := fun i => by
      rw [← hB, up_cell _ (by decide), up_cell _ (by decide), eA 51 (by decide) (by decide) (by decide) (by decide) (by decide)]
    have e43 : up T 51 0 0 51 43 = n := by
      rw [up_same, if_neg (by decide), t51, b51]
      omega
    have t23 : T 23 4 = n + 1 := by
      rw [s1 23 (by decide)]
      exact iX.1.1.symm
    unfold M_X12_added
    rw [zs_in, step _ (by rw [up_same, if_neg (by decide), t51, b51]; exact r0.1) (by
      funext i
      rw [up_cell _ (by decide), s1 69 (by decide), ← hB, up_cell _ (by decide), up_cell _ (by decide), eA 69 (by decide) (by decide) (by decide) (by decide) (by decide)]), zb_some, zif1 d1, if_neg (by decide), if_neg (by omega), if_neg (by omega), if_neg (by omega), if_neg (by omega), e43, if_neg (by omega), zg_in (by omega), zs_in]
    have v1 : up (up T 51 0 0) 79 n q1 51 43 = n := e43
    rw [v1, zg_in (by omega), zs_in]
    have v2 : up (up (up T 51 0 0) 79 n q1) 80 n q2 51 43 = n := e43
    rw [v2, zg_in (by omega), zs_in]
    have v3 : up (up (up (up T 51 0 0) 79 n q1) 80 n q2) 81 n q3 51 43 = n := e43
    rw [v3, zg_in (by omega), zs_in]
    have v4 : up (up (up (up (up T 51 0 0) 79 n q1) 80 n q2) 81 n q3) 82 n q4 51 43 = n := e43
    rw [v4, zl_in (by omega), zs_in, zP_ret, up_eq, t23]
    have hm : msk T = msk B := msk_fr (A := [29, 30, 31]) (O := []) (by decide) (by decide) s1.fr
    have hl : ∀ k : Nat, k ∉ [29, 30, 31] → up (up (up (up (up (up T 51 0 0) 79 n q1) 80 n q2) 81 n q3) 82 n q4) 51 43 (n + 1) k = up (up (up (up (up (up B 51 0 0) 79 n q1) 80 n q2) 81 n q3) 82 n q4) 51 43 (n + 1) k := rsame_up2 (rsame_up2 (rsame_up2 (rsame_up2 (rsame_up2 (rsame_up2 s1)))))
    refine ⟨rfl, iAll_mk (iRest_msk X (msk_up (msk_up (msk_up (msk_up (msk_up (msk_up hm))))))) ?_ ?_ bT⟩
    · have iE' : iReg (up (up (up (up (up (up B 51 0 0) 79 n q1) 80 n q2) 81 n q3) 82 n q4) 51 43 (n + 1)) := by
        rw [← hB, ← hA]
        exact iE
      unfold iReg at iE' ⊢
      rw [hl 2 (by decide), hl 4 (by decide), hl 18 (by decide), hl 17 (by decide)]
      exact iE'
    · unfold iTak cel at iK' ⊢
      rw [hl 2 (by decide), hl 4 (by decide), hl 11 (by decide), hl 19 (by decide), hl 7 (by decide), hl 10 (by decide), hl 17 (by decide), hl 21 (by decide), hl 8 (by decide), hl 9 (by decide)]
      exact iK'
  · have m : zP (M_X12_added q1 q2 q3 q4 S) (fun r' U => r' = -1 ∧ iAll U) := by
      unfold M_X12_added
      rw [zs_in, step (up S 51 0 0) r0.1 rfl, zb_some]
      have e43 : up S 51 0 0 51 43 = S 23 4 := a0.1
      rw [e43]
      by_cases g : (0 ≤ q1 ∧ q1 < S 7 11) ∧ 0 ≤ q2 ∧ q2 < S 10 q1
      · rw [zif1 g, if_neg (by decide)]
        by_cases g1 : q3 < 1
        · rw [if_pos g1, zP_ret]
          exact ⟨rfl, k0⟩
        · rw [if_neg g1]
          by_cases g2 : 99 < q3
          · rw [if_pos g2, zP_ret]
            exact ⟨rfl, k0⟩
          · rw [if_neg g2]
            by_cases g3 : q4 < 20
            · rw [if_pos g3, zP_ret]
              exact ⟨rfl, k0⟩
            · rw [if_neg g3]
              by_cases g4 : 2000 < q4
              · rw [if_pos g4, zP_ret]
                exact ⟨rfl, k0⟩
              · rw [if_neg g4]
                have e60 : S 23 4 = 60 := by
                  by_cases z : S 23 4 < 60
                  · exact absurd ⟨g, ⟨by omega, by omega⟩, ⟨by omega, by omega⟩, z⟩ d
                  · omega
                rw [if_pos e60, zP_ret]
                exact ⟨rfl, k0⟩
      · rw [zif0 g, if_pos rfl, zP_ret]
        exact ⟨rfl, k0⟩
    have j : ∀ t : Int, (t ≠ 0 → (1 ≤ q3 ∧ q3 ≤ 99) ∧ (20 ≤ q4 ∧ q4 ≤ 2000)) → zP (J_X11_added_24 q1 q2 q3 q4 t S) (fun r T => WR shF T → zP (M_X12_added q1 q2 q3 q4 T) (fun r' U => r' = r ∧ iAll U)) := by
      intro t ht
      unfold J_X11_added_24
      rw [e_cellIn hR, zb_some]
      by_cases g : (0 ≤ q1 ∧ q1 < S 7 11) ∧ 0 ≤ q2 ∧ q2 < S 10 q1
      · have cr := cel_r hR g.1.1 g.1.2 g.2.1 g.2.2
        rw [if_pos g, if_neg (by omega)]
        by_cases g2 : t = 0
        · rw [if_pos g2, zP_ret]
          exact fun _ => m
        · have := ht g2
          rw [if_neg g2, if_neg (fun z => d ⟨g, this.1, this.2, z⟩), zP_ret]
          exact fun _ => m
      · rw [if_neg g, if_pos rfl, zP_ret]
        exact fun _ => m
    unfold M_X11_added J_X11_added_23
    by_cases g1 : q3 < 1
    · rw [if_pos g1]
      exact j 0 (fun z => absurd rfl z)
    · rw [if_neg g1]
      by_cases g2 : 99 < q3
      · rw [if_pos g2]
        exact j 0 (fun z => absurd rfl z)
      · rw [if_neg g2, e_isLength, zb_some]
        by_cases g3 : 20 ≤ q4 ∧ q4 ≤ 2000
        · rw [zif1 g3, if_neg (by decide)]
          exact j 1 (fun _ => ⟨by omega, g3⟩)
        · rw [zif0 g3, if_pos rfl]
          exact j 0 (fun z => absurd rfl z)
end ST
