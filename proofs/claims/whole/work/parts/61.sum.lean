/-! hair summed: the class settles -/
section T3
variable {S : HS}
theorem cel_inj (hR : cRow S) {r k r' k' : Int} (h1 : 0 ≤ r) (h2 : r < S 7 11) (h3 : 0 ≤ k) (h4 : k < S 10 r) (h1' : 0 ≤ r') (h2' : r' < S 7 11) (h3' : 0 ≤ k') (h4' : k' < S 10 r') (e : cel S r k = cel S r' k') : r = r' ∧ k = k' := by
  have a := hR.2.2.1 r k h1 h2 h3 h4
  have b := hR.2.2.1 r' k' h1' h2' h3' h4'
  have c := hR.2.1 r h1 h2
  have d := hR.2.1 r' h1' h2'
  rw [e] at a
  omega
theorem e_addHair (hR : cRow S) {r k v : Int} (h1 : 0 ≤ r) (h2 : r < S 7 11) (h3 : 0 ≤ k) (h4 : k < S 10 r) (hv : -2147483648 ≤ S 21 (cel S r k) + v ∧ S 21 (cel S r k) + v < 2147483648) : M_X8_addHair (200 * r + k) v S = some (0, up S 21 (cel S r k) (S 21 (cel S r k) + v)) := by
  have a := hR.2.2.1 r k h1 h2 h3 h4
  have c := hR.2.1 r h1 h2
  unfold M_X8_addHair
  rw [zg_in (by omega), zg_in (by omega), show (200 * r + k) % 200 = k by omega, show (200 * r + k) / 200 = r by omega, zl_in (by omega), zl_in (by have := hR.1; omega), e_cellIn1 hR h1 h2 h3 h4, zb_some, e_cell, zb_some, zif1 ⟨a.1, a.2.1⟩, if_neg (by decide), zg_in ⟨a.1, a.2.1⟩, zl_in hv, zg_in ⟨a.1, a.2.1⟩, zs_in]
theorem e_sumHair (hR : cRow S) (hH : cHair S) (hT : ∀ c : Int, 0 ≤ c → c < 192 → (S 2 c = -1 → S 19 c = -1) ∧ (S 2 c ≠ -1 → S 19 c = -2 ∨ ∃ r k : Int, 0 ≤ r ∧ r < S 7 11 ∧ 0 ≤ k ∧ k < S 10 r ∧ S 19 c = 200 * r + k)) : zP (M_X8_sumHair S) (fun _ T => T 17 10 = zsum (fun c => if S 19 c = -2 then 1 else 0) 192 ∧ ∀ r k : Int, 0 ≤ r → r < S 7 11 → 0 ≤ k → k < S 10 r → T 21 (cel S r k) = zsum (fun c => if S 19 c = 200 * r + k then S 2 c else 0) 192) := by
  unfold M_X8_sumHair
  rw [zs_in, zs_in]
  have cong : ∀ T : HS, T 8 = S 8 → T 9 = S 9 → ∀ r k : Int, cel T r k = cel S r k := fun T a b r k => by
    unfold cel
    rw [a, b]
  refine zloop (b := 192) (fun v T => (0 ≤ v ∧ v ≤ 192) ∧ (∀ k, k ≠ 21 → k ≠ 17 → T k = S k) ∧ T 17 10 = zsum (fun c => if S 19 c = -2 then 1 else 0) v.toNat ∧ ∀ r k : Int, 0 ≤ r → r < S 7 11 → 0 ≤ k → k < S 10 r → T 21 (cel S r k) = zsum (fun c => if S 19 c = 200 * r + k then S 2 c else 0) v.toNat) (fun m v T hJ hv => ?_) (fun m v T hJ hv ih => ?_) _ _ _ ⟨⟨by decide, by decide⟩, ?_, rfl, ?_⟩ (by decide)
  · obtain ⟨a, b, c, d⟩ := hJ
    have ev : v = 192 := by omega
    subst ev
    rw [L_X8_sumHair_15.eq_2, if_pos (by decide), zP_ret]
    exact ⟨c, d⟩
  · obtain ⟨a, b, c, d⟩ := hJ
    have ev : (v + 1).toNat = v.toNat + 1 := by omega
    have ev2 : ((v.toNat : Nat) : Int) = v := by omega
    have t19 : T 19 = S 19 := b 19 (by decide) (by decide)
    have hv1 := hT v a.1 hv
    have hh := hH v a.1 hv
    rw [L_X8_sumHair_15.eq_2, if_neg (by omega), zg_in ⟨a.1, hv⟩, t19]
    unfold J_X8_sumHair_74
    by_cases q : S 19 v = -2
    · have bd := (zsum_bd (f := fun c => if S 19 c = -2 then (1 : Int) else 0) (n := v.toNat) (c := 1) (fun i _ _ => by show 0 ≤ (if S 19 i = -2 then (1 : Int) else 0) ∧ (if S 19 i = -2 then (1 : Int) else 0) ≤ 1; split <;> omega))
      rw [if_pos q, zl_in (by omega), zs_in, zl_in (by omega)]
      refine ih _ ⟨by omega, fun k k1 k2 => ?_, ?_, fun r k r0 r1 k0 k1 => ?_⟩
      · funext i
        rw [up_cell _ k2]
        exact congrFun (b k k1 k2) i
      · rw [up_eq, ev, zsum_s, ev2, if_pos q, ← c]
      · rw [ev, zsum_s, ev2, if_neg (by omega)]
        show T 21 (cel S r k) = _
        rw [d r k r0 r1 k0 k1]
        omega
    · rw [if_neg q, zg_in ⟨a.1, hv⟩]
      by_cases q2 : S 19 v = -1
      · rw [if_pos q2, zl_in (by omega)]
        refine ih _ ⟨by omega, b, ?_, fun r k r0 r1 k0 k1 => ?_⟩
        · rw [ev, zsum_s, ev2, if_neg q, c]
          omega
        · rw [ev, zsum_s, ev2, if_neg (by omega), d r k r0 r1 k0 k1]
          omega
      · have hne : S 2 v ≠ -1 := fun k => q2 (hv1.1 k)
        rcases hv1.2 hne with k | ⟨r', k', x1, x2, x3, x4, x5⟩
        · exact absurd k q
        · have hc := hR.2.2.1 r' k' x1 x2 x3 x4
          have t7 : T 7 = S 7 := b 7 (by decide) (by decide)
          have t10 : T 10 = S 10 := b 10 (by decide) (by decide)
          have hR' : cRow T := by
            unfold cRow cel
            rw [t7, t10, b 9 (by decide) (by decide), b 8 (by decide) (by decide), b 11 (by decide) (by decide), b 2 (by decide) (by decide)]
            exact hR
          have ce := cong T (b 8 (by decide) (by decide)) (b 9 (by decide) (by decide)) r' k'
          have bd := zsum_bd (f := fun c => if S 19 c = 200 * r' + k' then S 2 c else 0) (n := v.toNat) (c := 99) (fun i i0 i1 => by
            show 0 ≤ (if S 19 i = 200 * r' + k' then S 2 i else 0) ∧ (if S 19 i = 200 * r' + k' then S 2 i else 0) ≤ 99
            have h1 := hH i i0 (by omega)
            have h2 := (hT i i0 (by omega)).1
            split
            · omega
            · omega)
          rw [if_neg q2, zg_in ⟨a.1, hv⟩, e_hairsAt, zb_some, if_pos ⟨a.1, hv⟩, b 2 (by decide) (by decide), x5, e_addHair hR' x1 (by rw [t7]; exact x2) x3 (by rw [t10]; exact x4) (by rw [ce, d r' k' x1 x2 x3 x4]; omega), zb_some, zl_in (by omega), ce]
          refine ih _ ⟨by omega, fun k k1 k2 => ?_, ?_, fun r k r0 r1 k0 k1 => ?_⟩
          · funext i
            rw [up_cell _ k1]
            exact congrFun (b k k1 k2) i
          · rw [ev, zsum_s, ev2, if_neg q]
            show T 17 10 = _
            rw [c]
            omega
          · rw [up_same, ev, zsum_s, ev2, x5]
            by_cases g : cel S r k = cel S r' k'
            · obtain ⟨rfl, rfl⟩ := cel_inj hR r0 r1 k0 k1 x1 x2 x3 x4 g
              rw [if_pos rfl, if_pos rfl, d r k r0 r1 k0 k1]
            · rw [if_neg g, if_neg (fun e => g ?_), d r k r0 r1 k0 k1]
              · omega
              · have y := hR.2.1 r r0 r1
                have y' := hR.2.1 r' x1 x2
                have : r = r' ∧ k = k' := by omega
                rw [this.1, this.2]
  · intro k k1 k2
    funext i
    rw [up_cell _ k2]
    unfold zfill
    rw [if_neg (fun q => k1 q.1)]
  · intro r k r0 r1 k0 k1
    have hc := hR.2.2.1 r k r0 r1 k0 k1
    show zfill S 21 192 0 21 (cel S r k) = 0
    exact if_pos ⟨rfl, hc.1, hc.2.1⟩
theorem cRow_fr {T : HS} (hR : cRow S) (h2 : T 2 = S 2) (h7 : T 7 = S 7) (h8 : T 8 = S 8) (h9 : T 9 = S 9) (h10 : T 10 = S 10) (h11 : T 11 = S 11) : cRow T := by
  unfold cRow cel
  rw [h2, h7, h8, h9, h10, h11]
  exact hR
theorem e_settle8 (hW : WR shF S) (hR : cRow S) (hH : cHair S) : zP (M_X8_settle S) (fun _ T => iReg T ∧ iTak T) := by
  unfold M_X8_settle
  rw [zP_zb]
  refine zP_mono (zP_W (W_M_X8_nameRegions hW) (e_nameRegions (S := S))) (fun _ T1 h1 => ?_)
  obtain ⟨⟨g1, g2⟩, -, w1, f1⟩ := h1
  have R1 : cRow T1 := cRow_fr hR (f1.cell 2 (by decide) (by decide)) (f1.cell 7 (by decide) (by decide)) (f1.cell 8 (by decide) (by decide)) (f1.cell 9 (by decide) (by decide)) (f1.cell 10 (by decide) (by decide)) (f1.cell 11 (by decide) (by decide))
  rw [zP_zb]
  refine zP_mono (zP_W (W_M_X8_takeHair w1) (e_takeHair (S := T1) rfl rfl rfl (fun c c0 c1 => ?_))) (fun _ T2 h2 => ?_)
  · rcases R1.2.2.2 c c0 c1 with x | ⟨r, k, x1, x2, x3, x4, x5, x6⟩
    · exact Or.inl x
    · have := R1.2.2.1 r k x1 x2 x3 x4
      rw [x6] at this
      exact Or.inr ⟨by omega, c0, c1, by omega⟩
  · obtain ⟨⟨g3, g4⟩, -, w2, f2⟩ := h2
    have R2 : cRow T2 := cRow_fr R1 (f2.cell 2 (by decide) (by decide)) (f2.cell 7 (by decide) (by decide)) (f2.cell 8 (by decide) (by decide)) (f2.cell 9 (by decide) (by decide)) (f2.cell 10 (by decide) (by decide)) (f2.cell 11 (by decide) (by decide))
    have e2 : T2 2 = S 2 := (f2.cell 2 (by decide) (by decide)).trans (f1.cell 2 (by decide) (by decide))
    have e4 : T2 4 = S 4 := (f2.cell 4 (by decide) (by decide)).trans (f1.cell 4 (by decide) (by decide))
    have H2 : cHair T2 := by
      unfold cHair
      rw [e2]
      exact hH
    have K2 : ∀ c : Int, 0 ≤ c → c < 192 → (T2 2 c = -1 → T2 19 c = -1) ∧ (T2 2 c ≠ -1 → T2 19 c = -2 ∨ ∃ r k : Int, 0 ≤ r ∧ r < T2 7 11 ∧ 0 ≤ k ∧ k < T2 10 r ∧ T2 19 c = 200 * r + k) := by
      intro c c0 c1
      rw [f2.cell 2 (by decide) (by decide)]
      refine ⟨(g4 c c0 c1).1, fun q => ?_⟩
      rcases (g4 c c0 c1).2 q with x | ⟨e, x1, x2, x3, x4⟩
      · exact Or.inl x
      · rcases R2.2.2.2 e x1 x2 with y | ⟨r, k, y1, y2, y3, y4, y5, y6⟩
        · rw [f2.cell 11 (by decide) (by decide)] at y
          exact absurd y x3
        · rw [f2.cell 11 (by decide) (by decide)] at y5
          exact Or.inr ⟨r, k, y1, y2, y3, y4, by rw [x4, y5]⟩
    rw [zP_zb]
    refine zP_mono (zP_W (W_M_X8_sumHair w2) (e_sumHair R2 H2 K2)) (fun _ T3 h3 => ?_)
    obtain ⟨⟨g5, g6⟩, -, w3, f3⟩ := h3
    rw [zP_ret]
    have d2 : T3 2 = T2 2 := f3.cell 2 (by decide) (by decide)
    have d4 : T3 4 = T2 4 := f3.cell 4 (by decide) (by decide)
    have d7 : T3 7 = T2 7 := f3.cell 7 (by decide) (by decide)
    have d8 : T3 8 = T2 8 := f3.cell 8 (by decide) (by decide)
    have d9 : T3 9 = T2 9 := f3.cell 9 (by decide) (by decide)
    have d10 : T3 10 = T2 10 := f3.cell 10 (by decide) (by decide)
    have d11 : T3 11 = T2 11 := f3.cell 11 (by decide) (by decide)
    have d18 : T3 18 = T2 18 := f3.cell 18 (by decide) (by decide)
    have d19 : T3 19 = T2 19 := f3.cell 19 (by decide) (by decide)
    have d179 : T3 17 9 = T2 17 9 := f3 17 9 (by decide) (by decide)
    have c2 : T2 2 = T1 2 := f2.cell 2 (by decide) (by decide)
    have c4 : T2 4 = T1 4 := f2.cell 4 (by decide) (by decide)
    have c11 : T2 11 = T1 11 := f2.cell 11 (by decide) (by decide)
    have c18 : T2 18 = T1 18 := f2.cell 18 (by decide) (by decide)
    have c179 : T2 17 9 = T1 17 9 := f2 17 9 (by decide) (by decide)
    have cc : ∀ r k : Int, cel T3 r k = cel T2 r k := fun r k => by
      unfold cel
      rw [d8, d9]
    refine ⟨?_, ?_⟩
    · unfold iReg
      rw [d2, d4, d18, d179, e2, e4, c18, c179]
      exact ⟨g1, g2⟩
    · unfold iTak
      rw [d2, d4, d11, d19, d7, d10]
      refine ⟨⟨T2 20, by rw [c2, c4, c11]; exact g3⟩, K2, g5, fun r k r0 r1 k0 k1 => ?_⟩
      rw [cc]
      exact g6 r k r0 r1 k0 k1
end T3
