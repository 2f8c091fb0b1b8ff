/-! a program, drawn by both: all of it -/
section SB
variable {S0 T0 : HS}
theorem steps_on (h0 : 0 ≤ S0 3 3 ∧ 0 ≤ S0 7 11) (hs : 0 ≤ S0 42 3 ∧ S0 42 3 ≤ 1000) : ∀ (f d : Nat) (a b x y : Int) (S T : HS) (flip across down mir dx : Int) (NC NM : Nat) (v8 : Int), Rel f d (S0 43) T0 a b x y → d ≤ 4 → drw S0 T0 S T → zrun S T → 0 ≤ a → b ≤ S0 42 3 → 0 ≤ x → y ≤ 1099 → 0 ≤ v8 → v8 ≤ a → (mir = 0 ∧ flip = 1 ∧ across = dx ∨ mir = 1 ∧ flip = -1 ∧ across = dx + 16) → (-(200 * (d : Int)) ≤ dx ∧ dx ≤ 200 * d) → (-(200 * (d : Int)) ≤ down ∧ down ≤ 200 * d) → f ≤ NC → f ≤ NM → f ≤ 2000 → ∃ S' T' : HS, L_X4_drawSteps_13 (M_X4_drawSteps (5 - d)) b flip across down d NC a v8 S = some (0, S') ∧ L_X12_draws_3 (M_X12_draws (5 - d)) y mir dx down NM x T = some (0, T') ∧ drw S0 T0 S' T' ∧ (zrun S' T' ∨ zfai S' T') := by
  intro f
  induction f with
  | zero =>
    intro d a b x y S T flip across down mir dx NC NM v8 h
    exact absurd h (fun z => z)
  | succ f ih =>
    intro d a b x y S T flip across down mir dx NC NM v8 h hd hD hr ha hb hx hy v0 v1 hm hdx hdy hNC hNM hf
    obtain ⟨NC, rfl⟩ : ∃ N', NC = N' + 1 := ⟨NC - 1, by omega⟩
    obtain ⟨NM, rfl⟩ : ∃ N', NM = N' + 1 := ⟨NM - 1, by omega⟩
    have bz : zBig = 4294967296 := rfl
    have dd : ((d + 1 : Nat) : Int) = (d : Int) + 1 := rfl
    have hm01 : mir = 0 ∨ mir = 1 := by omega
    -- what follows a step
    have cont : ∀ (S1 T1 : HS) (a1 x1 v : Int), drw S0 T0 S1 T1 → (zrun S1 T1 ∨ zfai S1 T1) → Rel f d (S0 43) T0 a1 b x1 y → 0 ≤ a1 → 0 ≤ x1 → 0 ≤ v → v ≤ a1 → ∃ S' T' : HS, L_X4_drawSteps_13 (M_X4_drawSteps (5 - d)) b flip across down d NC a1 v S1 = some (0, S') ∧ L_X12_draws_3 (M_X12_draws (5 - d)) y mir dx down NM x1 T1 = some (0, T') ∧ drw S0 T0 S' T' ∧ (zrun S' T' ∨ zfai S' T') := by
      intro S1 T1 a1 x1 v D1 R1 hR1 a0 x0 w0 w1
      rcases R1 with R1 | R1
      · exact ih d a1 b x1 y S1 T1 flip across down mir dx NC NM v hR1 hd D1 R1 a0 hb x0 hy w0 w1 hm hdx hdy (by omega) (by omega) (by omega)
      · have f1 : 1 ≤ f := by
          cases f with
          | zero => exact absurd hR1 (fun z => z)
          | succ f => omega
        obtain ⟨s8, t17⟩ := R1.s (D1.b h0).1
        obtain ⟨NC, rfl⟩ : ∃ N', NC = N' + 1 := ⟨NC - 1, by omega⟩
        obtain ⟨NM, rfl⟩ : ∃ N', NM = N' + 1 := ⟨NM - 1, by omega⟩
        exact ⟨S1, T1, c_stop (Or.inr s8), m_stop (Or.inr t17), D1, Or.inr R1⟩
    have hD' := hD
    obtain ⟨-, -, -, -, ⟨e43, e42⟩, ⟨e57, e58, e59, e60⟩⟩ := hD'
    rcases h with h | ⟨k, h1, h2, h3, h4⟩ | ⟨a', x', h1, h2, h3, h4, h5, h6, h7, h8⟩ | ⟨a', x', h1, h2, h3, h4, h5, h6, h7, h8, h9⟩ | ⟨x', hh, h1, h2, h3, h4, h5, h6, h7⟩
    · exact ⟨S, T, c_stop (Or.inl (by omega)), m_stop (Or.inl (by omega)), hD, Or.inl hr⟩
    · -- a line
      obtain ⟨S1, T1, c1, m1, D1, R1⟩ := line_on (a := a) (x := x) (flip := flip) (mir := mir) (across := across) (dx := dx) (dy := down) (k := k) hD h0 hr h1 ha ⟨by omega, hs.2⟩ ⟨hx, by omega⟩ hm (by omega) (by omega)
      obtain ⟨S', T', x1, x2, x3, x4⟩ := cont S1 T1 (a + 4 + 2 * k) (x + 1 + k) (v8 + 1) D1 R1 h4 (by omega) (by omega) (by omega) (by omega)
      have d43 : S1 43 = S0 43 := D1.2.2.2.2.1.1
      have d42 : S1 42 3 = S0 42 3 := D1.2.2.2.2.1.2
      have l4 := h1.2.2.2.1
      have l60 := h1.2.2.2.2.1
      refine ⟨S', T', ?_, ?_, x3, x4⟩
      · have n6 : S 43 a ≠ 6 ∧ S 43 a ≠ 7 := by
          rw [e43]
          rcases h1.1 with z | z <;> omega
        rw [c_at (by omega) (by omega) hr.1 (by omega), if_neg n6.1, if_neg n6.2, c1, zb_some, zl_in (by omega), e_code (by omega), zb_some, d43, l4, zl_in (by omega)]
        unfold J_X4_drawSteps_149
        rw [zl_in (by omega), show a + (4 + 2 * (k : Int)) = a + 4 + 2 * k by omega]
        exact x1
      · have o57 : T 57 x = 0 ∨ T 57 x = 1 := by
          rw [e57]
          rcases h1.1 with z | z
          · exact Or.inl z.2.1
          · exact Or.inr z.2.1
        have em : L_X12_draws_3 (M_X12_draws (5 - d)) y mir dx down (NM + 1) x T = mLn (M_X12_draws (5 - d)) (L_X12_draws_3 (M_X12_draws (5 - d)) y mir dx down NM) y mir dx down x T := by
          rw [L_X12_draws_3.eq_2, if_neg (by omega), if_pos hr.2, zg_in (by omega), if_neg (by omega), zg_in (by omega), if_neg (by omega)]
          rfl
        rw [em, m1, l60]
        exact x2
    · -- again
      obtain ⟨q1, q2, ⟨q3, q4, q5⟩, q6, q7, q8, q9⟩ := h2
      obtain ⟨e, he⟩ : ∃ e, 5 - d = e + 1 := ⟨4 - d, by omega⟩
      have he' : 5 - (d + 1) = e := by omega
      have gb := gA_b (k := S0 43 (a + 2)) q7
      have t58 : T 58 (x + 1) = gAcr (S0 43 (a + 2)) * S0 43 (a + 3) := by rw [e58, q8]
      have t59 : T 59 (x + 1) = gDwn (S0 43 (a + 2)) * S0 43 (a + 3) := by rw [e59, q9]
      have tn : T 58 x = S0 43 (a + 1) := by rw [e58, q5]
      generalize hp : (if mir = 0 then T 58 (x + 1) else -(T 58 (x + 1))) = p7
      have bp : -16 ≤ p7 ∧ p7 ≤ 16 := by
        rw [← hp]
        split <;> omega
      have ga : gAcr (S0 43 (a + 2)) = -1 ∨ gAcr (S0 43 (a + 2)) = 0 ∨ gAcr (S0 43 (a + 2)) = 1 := by
        have := gAcr_r (w := S0 43 (a + 2))
        omega
      have gd : gDwn (S0 43 (a + 2)) = -1 ∨ gDwn (S0 43 (a + 2)) = 0 ∨ gDwn (S0 43 (a + 2)) = 1 := by
        have := gDwn_r (w := S0 43 (a + 2))
        omega
      -- how far it has moved
      have mvx : ∀ v : Int, 0 ≤ v → v ≤ 8 → (across + ((flip * v) * S0 43 (a + 3)) * gAcr (S0 43 (a + 2)) = across + v * p7) ∧ (-128 ≤ v * p7 ∧ v * p7 ≤ 128) ∧ ((flip * v) * S0 43 (a + 3)) * gAcr (S0 43 (a + 2)) = v * p7 ∧ (v * S0 43 (a + 3)) * gDwn (S0 43 (a + 2)) = v * T0 59 (x + 1) ∧ (-128 ≤ v * T0 59 (x + 1) ∧ v * T0 59 (x + 1) ≤ 128) ∧ (0 ≤ v * S0 43 (a + 3) ∧ v * S0 43 (a + 3) ≤ 128) := by
        intro v w0 w1
        have b2 := mul_b (v := v) (e := p7) (by omega) bp
        have b3 := mul_b (v := v) (e := T0 59 (x + 1)) (by omega) (by rw [q9]; exact gb.2)
        have b4 := mul_b (v := v) (e := S0 43 (a + 3)) (by omega) (by omega)
        have b5 : 0 ≤ v * S0 43 (a + 3) := Int.mul_nonneg w0 q7.1
        have k1 : ((flip * v) * S0 43 (a + 3)) * gAcr (S0 43 (a + 2)) = v * p7 := by
          have z : ((flip * v) * S0 43 (a + 3)) * gAcr (S0 43 (a + 2)) = (flip * gAcr (S0 43 (a + 2))) * (v * S0 43 (a + 3)) := by
            simp [Int.mul_assoc, Int.mul_comm, Int.mul_left_comm]
          have z2 : v * p7 = (flip * gAcr (S0 43 (a + 2))) * (v * S0 43 (a + 3)) := by
            rw [← hp, t58]
            rcases hm with ⟨rfl, rfl, -⟩ | ⟨rfl, rfl, -⟩
            · rw [if_pos rfl]
              simp [Int.mul_assoc, Int.mul_comm, Int.mul_left_comm]
            · rw [if_neg (by decide)]
              simp [Int.mul_assoc, Int.mul_comm, Int.mul_left_comm, Int.mul_neg]
          omega
        have k2 : (v * S0 43 (a + 3)) * gDwn (S0 43 (a + 2)) = v * T0 59 (x + 1) := by
          rw [q9]
          simp [Int.mul_assoc, Int.mul_comm, Int.mul_left_comm]
        exact ⟨by omega, b2, k1, k2, b3, by omega⟩
      have loop : ∀ (r : Nat) (v : Int) (MC MM : Nat) (S1 T1 : HS), 0 ≤ v → v + r = S0 43 (a + 1) → r < MC → r < MM → drw S0 T0 S1 T1 → (zrun S1 T1 ∨ zfai S1 T1) → ∃ S' T' : HS, L_X4_drawAgain_51 (M_X4_drawSteps (5 - d)) a flip across down d (S0 43 (a + 1)) (S0 43 (a + 2)) (S0 43 (a + 3)) a' MC v S1 = some (0, S') ∧ (∀ k : HS → zO2, L_X12_draws_58 (M_X12_draws (5 - d)) k y mir dx down x p7 MM v T1 = k T') ∧ drw S0 T0 S' T' ∧ (zrun S' T' ∨ zfai S' T') := by
        intro r
        induction r with
        | zero =>
          intro v MC MM S1 T1 w0 hv hMC hMM D1 R1
          obtain ⟨MC, rfl⟩ : ∃ N', MC = N' + 1 := ⟨MC - 1, by omega⟩
          obtain ⟨MM, rfl⟩ : ∃ N', MM = N' + 1 := ⟨MM - 1, by omega⟩
          have n1 : T1 58 x = S0 43 (a + 1) := by rw [D1.2.2.2.2.2.2.1, q5]
          refine ⟨S1, T1, ?_, fun k => ?_, D1, R1⟩
          · rw [L_X4_drawAgain_51.eq_2, if_pos (by omega)]
          · rw [L_X12_draws_58.eq_2, zg_in (by omega), if_pos (by omega)]
        | succ r ihr =>
          intro v MC MM S1 T1 w0 hv hMC hMM D1 R1
          obtain ⟨MC, rfl⟩ : ∃ N', MC = N' + 1 := ⟨MC - 1, by omega⟩
          obtain ⟨MM, rfl⟩ : ∃ N', MM = N' + 1 := ⟨MM - 1, by omega⟩
          have n1 : T1 58 x = S0 43 (a + 1) := by rw [D1.2.2.2.2.2.2.1, q5]
          have n59 : T1 59 (x + 1) = T0 59 (x + 1) := by rw [D1.2.2.2.2.2.2.2.1]
          have n60 : T1 60 x = x' := by rw [D1.2.2.2.2.2.2.2.2, h4]
          rcases R1 with R1 | R1
          · obtain ⟨y1, y2, y3, y4, y5, y6⟩ := mvx v w0 (by omega)
            obtain ⟨S2, T2, g1, g2, g3, g4⟩ := ih (d + 1) (a + 5) a' (x + 2) x' S1 T1 flip (across + v * p7) (down + v * T0 59 (x + 1)) mir (dx + v * p7) zBig zBig 0 h7 (by omega) D1 R1 (by omega) (by omega) (by omega) (by omega) (Int.le_refl _) (by omega) (by omega) (by omega) (by omega) (by omega) (by omega) (by omega)
            rw [he'] at g1 g2
            rw [dd] at g1
            obtain ⟨S', T', k1, k2, k3, k4⟩ := ihr (v + 1) MC MM S2 T2 (by omega) (by omega) (by omega) (by omega) g3 g4
            refine ⟨S', T', ?_, fun k => ?_, k3, k4⟩
            · rw [L_X4_drawAgain_51.eq_2, if_neg (by omega), if_pos R1.1, e_acr, zb_some, y3, zl_in (by omega), e_dwn, zb_some, y4, zl_in (by omega), zl_in (by omega), zl_in (by omega)]
              have ec : M_X4_drawSteps (5 - d) (a + 5) a' flip (across + v * p7) (down + v * T0 59 (x + 1)) ((d : Int) + 1) S1 = some (0, S2) := by
                rw [he, c_drs (by omega)]
                exact g1
              rw [ec, zb_some, zl_in (by omega)]
              exact k1
            · rw [L_X12_draws_58.eq_2, zg_in (by omega), if_neg (by omega), if_pos R1.2, zg_in (by omega), zg_in (by omega), n59, zl_in (by omega), zl_in (by omega), zl_in (by omega), n60]
              have em : M_X12_draws (5 - d) (x + 2) x' mir (dx + v * p7) (down + v * T0 59 (x + 1)) T1 = some (0, T2) := by
                rw [he, m_drs]
                exact g2
              rw [em, zb_some, zl_in (by omega)]
              exact k2 k
          · obtain ⟨s8, t17⟩ := R1.s (D1.b h0).1
            refine ⟨S1, T1, ?_, fun k => ?_, D1, Or.inr R1⟩
            · rw [L_X4_drawAgain_51.eq_2, if_neg (by omega), if_neg s8]
            · rw [L_X12_draws_58.eq_2, zg_in (by omega), if_neg (by omega), if_neg t17]
      obtain ⟨S1, T1, l1, l2, D1, R1⟩ := loop (S0 43 (a + 1)).toNat 0 zBig zBig S T (Int.le_refl _) (by omega) (by omega) (by omega) hD (Or.inl hr)
      have d43 : S1 43 = S0 43 := D1.2.2.2.2.1.1
      have d42 : S1 42 3 = S0 42 3 := D1.2.2.2.2.1.2
      have d60 : T1 60 x = x' := by rw [D1.2.2.2.2.2.2.2.2, h4]
      obtain ⟨S', T', x1, x2, x3, x4⟩ := cont S1 T1 a' x' (v8 + 1) D1 R1 h8 (by omega) (by omega) (by omega) (by omega)
      refine ⟨S', T', ?_, ?_, x3, x4⟩
      · have ea : M_X4_drawAgain (M_X4_drawSteps (5 - d)) a flip across down d S = some (0, S1) := by
          unfold M_X4_drawAgain
          rw [zl_in (by omega), e_code (by omega), zb_some, zl_in (by omega), e_code (by omega), zb_some, zl_in (by omega), e_code (by omega), zb_some, zl_in (by omega), e_code (by omega), zb_some, e43, h3]
          exact l1
        rw [c_at (by omega) (by omega) hr.1 (by omega), if_pos (by rw [e43]; exact q1), ea, zb_some, zl_in (by omega), e_code (by omega), zb_some, d43, h3]
        unfold J_X4_drawSteps_149
        rw [zl_in (by omega)]
        exact x1
      · rw [m_two (by omega) (by omega) hr.2 (by rw [e57]; exact q2) hm01 (by omega), hp, l2, zg_in (by omega), d60]
        exact x2
    · -- mirror
      obtain ⟨e, he⟩ : ∃ e, 5 - d = e + 1 := ⟨4 - d, by omega⟩
      have he' : 5 - (d + 1) = e := by omega
      -- one half
      have half : ∀ (S1 T1 : HS) (flip' across' mir' : Int), drw S0 T0 S1 T1 → (zrun S1 T1 ∨ zfai S1 T1) → (mir' = 0 ∧ flip' = 1 ∧ across' = dx ∨ mir' = 1 ∧ flip' = -1 ∧ across' = dx + 16) → ∃ S' T' : HS, (S1 45 8 = -1 → M_X4_drawSteps (5 - d) (a + 2) a' flip' across' down ((d : Int) + 1) S1 = some (0, S')) ∧ (S1 45 8 ≠ -1 → S' = S1) ∧ M_X12_draws (5 - d) (x + 1) x' mir' dx down T1 = some (0, T') ∧ drw S0 T0 S' T' ∧ (zrun S' T' ∨ zfai S' T') := by
        intro S1 T1 flip' across' mir' D1 R1 hm'
        rcases R1 with R1 | R1
        · obtain ⟨S2, T2, g1, g2, g3, g4⟩ := ih (d + 1) (a + 2) a' (x + 1) x' S1 T1 flip' across' down mir' dx zBig zBig 0 h8 (by omega) D1 R1 (by omega) (by omega) (by omega) (by omega) (Int.le_refl _) (by omega) hm' (by omega) (by omega) (by omega) (by omega) (by omega)
          rw [he'] at g1 g2
          rw [dd] at g1
          refine ⟨S2, T2, fun _ => ?_, fun z => absurd R1.1 z, ?_, g3, g4⟩
          · rw [he, c_drs (by omega)]
            exact g1
          · rw [he, m_drs]
            exact g2
        · obtain ⟨s8, t17⟩ := R1.s (D1.b h0).1
          refine ⟨S1, T1, fun z => absurd z s8, fun _ => rfl, ?_, D1, Or.inr R1⟩
          have ez : zBig = 4294967295 + 1 := rfl
          rw [he, m_drs, ez, m_stop (Or.inr t17)]
      obtain ⟨S1, T1, c1, -, m1, D1, R1⟩ := half S T flip across mir hD (Or.inl hr) hm
      obtain ⟨S2, T2, c2, c2', m2, D2, R2⟩ := half S1 T1 (-flip) (across + flip * 16) (if mir = 0 then 1 else 0) D1 R1 (by
        rcases hm with ⟨rfl, rfl, rfl⟩ | ⟨rfl, rfl, rfl⟩
        · right
          refine ⟨if_pos rfl, rfl, by omega⟩
        · left
          refine ⟨if_neg (by decide), rfl, by omega⟩)
      have d43 : S1 43 = S0 43 := D1.2.2.2.2.1.1
      have d42 : S1 42 3 = S0 42 3 := D1.2.2.2.2.1.2
      have d43' : S2 43 = S0 43 := D2.2.2.2.2.1.1
      have d42' : S2 42 3 = S0 42 3 := D2.2.2.2.2.1.2
      have t60 : T 60 x = x' := by rw [e60, h5]
      have t60' : T1 60 x = x' := by rw [D1.2.2.2.2.2.2.2.2, h5]
      have t60'' : T2 60 x = x' := by rw [D2.2.2.2.2.2.2.2.2, h5]
      obtain ⟨S', T', x1, x2, x3, x4⟩ := cont S2 T2 a' x' (v8 + 1) D2 R2 h9 (by omega) (by omega) (by omega) (by omega)
      refine ⟨S', T', ?_, ?_, x3, x4⟩
      · have ea : M_X4_drawMirrored (M_X4_drawSteps (5 - d)) a flip across down d S = some (0, S2) := by
          unfold M_X4_drawMirrored
          rw [zl_in (by omega), e_code (by omega), zb_some, zl_in (by omega), zl_in (by omega), e43, h4, c1 hr.1, zb_some]
          by_cases g : S1 45 8 = -1
          · rw [if_pos g, zl_in (by omega), zl_in (by omega), zl_in (by omega), zl_in (by omega), c2 g, zb_some]
          · rw [if_neg g, c2' g]
        rw [c_at (by omega) (by omega) hr.1 (by omega), if_neg (by rw [e43]; omega), if_pos (by rw [e43]; exact h2), ea, zb_some, zl_in (by omega), e_code (by omega), zb_some, d43', h4]
        unfold J_X4_drawSteps_149
        rw [zl_in (by omega)]
        exact x1
      · rw [m_three (by omega) (by omega) hr.2 (by rw [e57]; exact h3), t60, m1, zb_some, t60', m2, zb_some, t60'']
        exact x2
    · -- a block that the class has dropped
      obtain ⟨e, he⟩ : ∃ e, 5 - d = e + 1 := ⟨4 - d, by omega⟩
      have hE : opE T0 T := ⟨e57, e58, e59, e60⟩
      have h1' : 1 ≤ hh := by
        rcases h2 with z | z <;> omega
      obtain ⟨S', T', x1, x2, x3, x4⟩ := ih d a b x' y S T flip across down mir dx (NC + 1) NM v8 h7 hd hD hr ha hb (by omega) hy v0 v1 hm hdx hdy (by omega) (by omega) (by omega)
      refine ⟨S', T', x1, ?_, x3, x4⟩
      -- the block alone leaves all as it is
      have one : L_X12_draws_3 (M_X12_draws (5 - d)) y mir dx down (NM + 1) x T = L_X12_draws_3 (M_X12_draws (5 - d)) y mir dx down NM x' T := by
        have he' : 5 - (d + 1) = e := by omega
        have inner : ∀ (mir' dx' dy' : Int), (mir' = 0 ∨ mir' = 1) → (-(200 * ((d : Int) + 1)) ≤ dx' ∧ dx' ≤ 200 * ((d : Int) + 1)) → (-(200 * ((d : Int) + 1)) ≤ dy' ∧ dy' ≤ 200 * ((d : Int) + 1)) → M_X12_draws (5 - d) (x + hh) x' mir' dx' dy' T = some (0, T) := by
          intro mir' dx' dy' g1 g2 g3
          have z := emp_on f (d + 1) a (x + hh) x' T mir' dx' dy' zBig h6 (by omega) hE hr.2 (by omega) (by omega) g1 (by rw [dd]; exact g2) (by rw [dd]; exact g3) (by omega) (by omega)
          rw [he'] at z
          rw [he, m_drs]
          exact z
        have t60 : T 60 x = x' := by rw [e60]; exact h3
        rcases h2 with ⟨rfl, q1, q2, q3, q4⟩ | ⟨rfl, q1⟩
        · have t58 : T 58 (x + 1) = T0 58 (x + 1) := by rw [e58]
          have t59 : T 59 (x + 1) = T0 59 (x + 1) := by rw [e59]
          have tn : T 58 x = T0 58 x := by rw [e58]
          rw [m_two (by omega) (by omega) hr.2 (by rw [e57]; exact q1) hm01 (by omega)]
          generalize hp : (if mir = 0 then T 58 (x + 1) else -(T 58 (x + 1))) = p7
          have bp : -16 ≤ p7 ∧ p7 ≤ 16 := by
            rw [← hp]
            split <;> omega
          have loop : ∀ (r : Nat) (v : Int) (M : Nat) (k : HS → zO2), 0 ≤ v → v + r = T0 58 x → r < M → L_X12_draws_58 (M_X12_draws (5 - d)) k y mir dx down x p7 M v T = k T := by
            intro r
            induction r with
            | zero =>
              intro v M k w0 hv hM
              obtain ⟨M, rfl⟩ : ∃ M', M = M' + 1 := ⟨M - 1, by omega⟩
              rw [L_X12_draws_58.eq_2, zg_in (by omega), if_pos (by omega)]
            | succ r ihr =>
              intro v M k w0 hv hM
              obtain ⟨M, rfl⟩ : ∃ M', M = M' + 1 := ⟨M - 1, by omega⟩
              have b1 := mul_b (v := v) (e := T 59 (x + 1)) (by omega) (by omega)
              have b2 := mul_b (v := v) (e := p7) (by omega) bp
              rw [L_X12_draws_58.eq_2, zg_in (by omega), if_neg (by omega), if_pos hr.2, zg_in (by omega), zg_in (by omega), zl_in (by omega), zl_in (by omega), zl_in (by omega), t60, inner mir _ _ hm01 (by omega) (by omega), zb_some, zl_in (by omega)]
              exact ihr (v + 1) M k (by omega) (by omega) (by omega)
          rw [loop (T0 58 x).toNat 0 zBig _ (Int.le_refl _) (by omega) (by omega), zg_in (by omega), t60]
        · rw [m_three (by omega) (by omega) hr.2 (by rw [e57]; exact q1), t60, inner mir _ _ hm01 (by omega) (by omega), zb_some, t60, inner _ _ _ (by split <;> omega) (by omega) (by omega), zb_some, t60]
      rw [one]
      exact x2
end SB
