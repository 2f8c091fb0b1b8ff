/-! a program, drawn by both -/
section SA
variable {S0 T0 S T : HS}
theorem mul_b {v e : Int} (hv : 0 ≤ v ∧ v ≤ 8) (he : -16 ≤ e ∧ e ≤ 16) : -128 ≤ v * e ∧ v * e ≤ 128 := by
  have c : v = 0 ∨ v = 1 ∨ v = 2 ∨ v = 3 ∨ v = 4 ∨ v = 5 ∨ v = 6 ∨ v = 7 ∨ v = 8 := by omega
  rcases c with rfl | rfl | rfl | rfl | rfl | rfl | rfl | rfl | rfl <;> omega
def opE (T0 T : HS) : Prop := T 57 = T0 57 ∧ T 58 = T0 58 ∧ T 59 = T0 59 ∧ T 60 = T0 60
theorem m_drs {e : Nat} {a1 a2 a3 a4 a5 : Int} : M_X12_draws (e + 1) a1 a2 a3 a4 a5 T = L_X12_draws_3 (M_X12_draws e) a2 a3 a4 a5 zBig a1 T := rfl
theorem c_drs {e : Nat} {a1 a2 a3 a4 a5 a6 : Int} (h : a6 ≤ 4) : M_X4_drawSteps (e + 1) a1 a2 a3 a4 a5 a6 S = L_X4_drawSteps_13 (M_X4_drawSteps e) a2 a3 a4 a5 a6 zBig a1 0 S := by
  show F_X4_drawSteps (M_X4_drawSteps e) a1 a2 a3 a4 a5 a6 S = _
  unfold F_X4_drawSteps
  rw [if_pos h]
theorem m_stop {rec : Int → Int → Int → Int → Int → HS → zO2} {p2 p3 p4 p5 v : Int} {N : Nat} (h : p2 ≤ v ∨ T 51 17 ≠ 0) : L_X12_draws_3 rec p2 p3 p4 p5 (N + 1) v T = some (0, T) := by
  rw [L_X12_draws_3.eq_2]
  by_cases g : p2 ≤ v
  · rw [if_pos g]
  · rw [if_neg g, if_neg (by omega)]
theorem c_stop {rec : Int → Int → Int → Int → Int → Int → HS → zO2} {p2 p3 p4 p5 p6 v v8 : Int} {N : Nat} (h : p2 ≤ v ∨ S 45 8 ≠ -1) : L_X4_drawSteps_13 rec p2 p3 p4 p5 p6 (N + 1) v v8 S = some (0, S) := by
  rw [L_X4_drawSteps_13.eq_2]
  by_cases g0 : 1000 ≤ v8
  · rw [if_pos g0]
  · rw [if_neg g0]
    by_cases g : p2 ≤ v
    · rw [if_pos g]
    · rw [if_neg g, if_neg (by omega)]
/-- the reference at a step -/
theorem m_two {rec : Int → Int → Int → Int → Int → HS → zO2} {p2 mir p4 p5 x : Int} {N : Nat} (hx : 0 ≤ x ∧ x + 1 < 1100) (hy : x < p2) (h0 : T 51 17 = 0) (h57 : T 57 x = 2) (hm : mir = 0 ∨ mir = 1) (hb : -100 ≤ T 58 (x + 1) ∧ T 58 (x + 1) ≤ 100) : L_X12_draws_3 rec p2 mir p4 p5 (N + 1) x T = L_X12_draws_58 rec (fun S43 => zg ((0 : Int) ≤ x ∧ x < 1100) <| L_X12_draws_3 rec p2 mir p4 p5 N (S43 60 x) S43) p2 mir p4 p5 x (if mir = 0 then T 58 (x + 1) else -(T 58 (x + 1))) zBig 0 T := by
  rw [L_X12_draws_3.eq_2, if_neg (by omega), if_pos h0, zg_in (by omega), if_pos h57]
  rcases hm with rfl | rfl
  · rw [if_pos rfl, zg_in (by omega), if_pos rfl]
    rfl
  · rw [if_neg (by decide), zg_in (by omega), zl_in (by omega), if_neg (by decide)]
    rfl
theorem m_three {rec : Int → Int → Int → Int → Int → HS → zO2} {p2 mir p4 p5 x : Int} {N : Nat} (hx : 0 ≤ x ∧ x + 1 < 1100) (hy : x < p2) (h0 : T 51 17 = 0) (h57 : T 57 x = 3) : L_X12_draws_3 rec p2 mir p4 p5 (N + 1) x T = zb (rec (x + 1) (T 60 x) mir p4 p5 T) fun _ S23 => zb (rec (x + 1) (S23 60 x) (if mir = 0 then 1 else 0) p4 p5 S23) fun _ S28 => L_X12_draws_3 rec p2 mir p4 p5 N (S28 60 x) S28 := by
  rw [L_X12_draws_3.eq_2, if_neg (by omega), if_pos h0, zg_in (by omega), if_neg (by omega), zg_in (by omega), if_pos h57, zg_in (by omega), zl_in (by omega)]
  cases hq : rec (x + 1) (T 60 x) mir p4 p5 T with
  | none => rfl
  | some q =>
    obtain ⟨r, U⟩ := q
    rw [zb_some, zb_some, zg_in (by omega)]
    unfold J_X12_draws_177 J_X12_draws_244
    by_cases g : mir = 0
    · rw [if_pos g, zl_in (by omega), if_pos g]
      cases hq2 : rec (x + 1) (U 60 x) 1 p4 p5 U with
      | none => rfl
      | some q2 =>
        obtain ⟨r2, V⟩ := q2
        rw [zb_some, zb_some, zg_in (by omega)]
    · rw [if_neg g, zl_in (by omega), if_neg g]
      cases hq2 : rec (x + 1) (U 60 x) 0 p4 p5 U with
      | none => rfl
      | some q2 =>
        obtain ⟨r2, V⟩ := q2
        rw [zb_some, zb_some, zg_in (by omega)]
/-- where nothing stands, nothing is drawn -/
theorem emp_on {c : Int → Int} : ∀ (f d : Nat) (a x y : Int) (T : HS) (mir dx dy : Int) (N : Nat), Rel f d c T0 a a x y → d ≤ 4 → opE T0 T → T 51 17 = 0 → 0 ≤ x → y ≤ 1099 → (mir = 0 ∨ mir = 1) → (-(200 * (d : Int)) ≤ dx ∧ dx ≤ 200 * d) → (-(200 * (d : Int)) ≤ dy ∧ dy ≤ 200 * d) → f ≤ N → f ≤ 2000 → L_X12_draws_3 (M_X12_draws (5 - d)) y mir dx dy N x T = some (0, T) := by
  intro f
  induction f with
  | zero =>
    intro d a x y T mir dx dy N h
    exact absurd h (fun z => z)
  | succ f ih =>
    intro d a x y T mir dx dy N h hd hE h17 hx hy hm hdx hdy hN hf
    obtain ⟨N, rfl⟩ : ∃ N', N = N' + 1 := ⟨N - 1, by omega⟩
    obtain ⟨e57, e58, e59, e60⟩ := hE
    have hE' : opE T0 T := ⟨e57, e58, e59, e60⟩
    rcases h with h | ⟨k, h1, h2, h3, h4⟩ | ⟨a', x', h1, h2, h3, h4, h5, h6, h7, h8⟩ | ⟨a', x', h1, h2, h3, h4, h5, h6, h7, h8, h9⟩ | ⟨x', hh, h1, h2, h3, h4, h5, h6, h7⟩
    · exact m_stop (Or.inl (by omega))
    · omega
    · omega
    · omega
    · obtain ⟨e, he⟩ : ∃ e, 5 - d = e + 1 := ⟨4 - d, by omega⟩
      have he' : 5 - (d + 1) = e := by omega
      have dd : ((d + 1 : Nat) : Int) = (d : Int) + 1 := rfl
      have bz : zBig = 4294967296 := rfl
      have inner : ∀ (mir' dx' dy' : Int), (mir' = 0 ∨ mir' = 1) → (-(200 * ((d : Int) + 1)) ≤ dx' ∧ dx' ≤ 200 * ((d : Int) + 1)) → (-(200 * ((d : Int) + 1)) ≤ dy' ∧ dy' ≤ 200 * ((d : Int) + 1)) → 0 ≤ x + hh → x' ≤ 1099 → M_X12_draws (5 - d) (x + hh) x' mir' dx' dy' T = some (0, T) := by
        intro mir' dx' dy' g1 g2 g3 g4 g5
        have z := ih (d + 1) a (x + hh) x' T mir' dx' dy' zBig h6 (by omega) hE' h17 g4 g5 g1 (by rw [dd]; exact g2) (by rw [dd]; exact g3) (by omega) (by omega)
        rw [he'] at z
        rw [he, m_drs]
        exact z
      have rest := ih d a x' y T mir dx dy N h7 hd hE' h17 (by rcases h2 with z | z <;> omega) hy hm hdx hdy (by omega) (by omega)
      have t60 : T 60 x = x' := by rw [e60]; exact h3
      rcases h2 with ⟨rfl, q1, q2, q3, q4⟩ | ⟨rfl, q1⟩
      · have t58 : T 58 (x + 1) = T0 58 (x + 1) := by rw [e58]
        have t59 : T 59 (x + 1) = T0 59 (x + 1) := by rw [e59]
        have tn : T 58 x = T0 58 x := by rw [e58]
        rw [m_two (by omega) (by omega) h17 (by rw [e57]; exact q1) hm (by omega)]
        generalize hp : (if mir = 0 then T 58 (x + 1) else -(T 58 (x + 1))) = p7
        have bp : -16 ≤ p7 ∧ p7 ≤ 16 := by
          rw [← hp]
          split <;> omega
        have loop : ∀ (r : Nat) (v : Int) (M : Nat) (k : HS → zO2), 0 ≤ v → v + r = T0 58 x → r < M → L_X12_draws_58 (M_X12_draws (5 - d)) k y mir dx dy x p7 M v T = k T := by
          intro r
          induction r with
          | zero =>
            intro v M k v0 hv hM
            obtain ⟨M, rfl⟩ : ∃ M', M = M' + 1 := ⟨M - 1, by omega⟩
            rw [L_X12_draws_58.eq_2, zg_in (by omega), if_pos (by omega)]
          | succ r ihr =>
            intro v M k v0 hv hM
            obtain ⟨M, rfl⟩ : ∃ M', M = M' + 1 := ⟨M - 1, by omega⟩
            have b1 := mul_b (v := v) (e := T 59 (x + 1)) (by omega) (by omega)
            have b2 := mul_b (v := v) (e := p7) (by omega) bp
            rw [L_X12_draws_58.eq_2, zg_in (by omega), if_neg (by omega), if_pos h17, zg_in (by omega), zg_in (by omega), zl_in (by omega), zl_in (by omega), zl_in (by omega), t60, inner mir _ _ hm (by omega) (by omega) (by omega) (by omega), zb_some, zl_in (by omega)]
            exact ihr (v + 1) M k (by omega) (by omega) (by omega)
        rw [loop (T0 58 x).toNat 0 zBig _ (Int.le_refl _) (by omega) (by omega), zg_in (by omega), t60]
        exact rest
      · rw [m_three (by omega) (by omega) h17 (by rw [e57]; exact q1), t60, inner mir _ _ hm (by omega) (by omega) (by omega) (by omega), zb_some, t60, inner _ _ _ (by split <;> omega) (by omega) (by omega) (by omega) (by omega), zb_some, t60]
        exact rest
/-- the class at a step -/
theorem c_at {rec : Int → Int → Int → Int → Int → Int → HS → zO2} {b flip across down d a v8 : Int} {N : Nat} (hv : v8 < 1000) (hab : a < b) (h8 : S 45 8 = -1) (ha : 0 ≤ a ∧ a < S 42 3 ∧ S 42 3 ≤ 1000) : L_X4_drawSteps_13 rec b flip across down d (N + 1) a v8 S = (if S 43 a = 6 then (zb (M_X4_drawAgain rec a flip across down d S) fun _ S22 => zl (a + 4) fun x23 => zb (M_X7_codeAt x23 S22) fun r24 S25 => J_X4_drawSteps_149 rec (L_X4_drawSteps_13 rec b flip across down d N) b flip across down d r24 v8 S25) else if S 43 a = 7 then (zb (M_X4_drawMirrored rec a flip across down d S) fun _ S17 => zl (a + 1) fun x18 => zb (M_X7_codeAt x18 S17) fun r19 S20 => J_X4_drawSteps_149 rec (L_X4_drawSteps_13 rec b flip across down d N) b flip across down d r19 v8 S20) else (zb (M_X4_drawLine a flip across down S) fun _ S10 => zl (a + 3) fun x11 => zb (M_X7_codeAt x11 S10) fun r12 S13 => zl (a + (4 + (2 * r12))) fun x14 => J_X4_drawSteps_149 rec (L_X4_drawSteps_13 rec b flip across down d N) b flip across down d x14 v8 S13)) := by
  rw [L_X4_drawSteps_13.eq_2, if_neg (by omega), if_neg (by omega), if_pos h8, e_code ha, zb_some]
theorem zfai.s (h : zfai S T) (hb : 0 ≤ S 45 7) : S 45 8 ≠ -1 ∧ T 51 17 ≠ 0 := by
  obtain ⟨h1, h2⟩ := h
  omega
end SA
