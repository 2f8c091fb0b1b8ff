/-! a line is walked -/
def pIn (W H X Y : Int) : Prop := (0 ≤ X ∧ X < W) ∧ 0 ≤ Y ∧ Y < H
abbrev wkO : List (Nat × Int) := [(46, 2), (46, 3), (46, 4), (46, 5), (46, 6), (46, 7), (46, 8)]
def wkS (S T : HS) (j W : Int) : Prop := S 47 j = W * T 62 j + T 61 j ∧ (1 ≤ j → (0 ≤ S 48 j ∧ S 48 j ≤ 3) ∧ T 61 j = T 61 (j - 1) + gAcr (S 48 j) ∧ T 62 j = T 62 (j - 1) + gDwn (S 48 j))
def wkR (W H : Int) (S T : HS) (vx vy : Int) : Prop := (1 ≤ T 51 19 ∧ S 46 2 = W ∧ S 46 3 = H) ∧ (T 61 (T 51 19 - 1) = vx ∧ T 62 (T 51 19 - 1) = vy) ∧ ((S 46 8 = 0 ∧ S 46 6 = T 51 19 ∧ S 46 4 = vx ∧ S 46 5 = vy) ∨ (S 46 8 = 1 ∧ S 46 6 < T 51 19 ∧ ¬ pIn W H (T 61 (S 46 6)) (T 62 (S 46 6)))) ∧ (∀ j : Int, 0 ≤ j → j < S 46 6 → pIn W H (T 61 j) (T 62 j)) ∧ (0 ≤ S 46 6 ∧ S 46 7 = min (S 46 6) 413) ∧ (∀ j : Int, 0 ≤ j → j < S 46 7 → wkS S T j W)
section WK
variable {S : HS}
theorem e_arrive {W H X Y u w : Int} (hW : W = 17 ∧ H = 13 ∨ W = 16 ∧ H = 12) (h2 : S 46 2 = W) (h3 : S 46 3 = H) (h4 : S 46 4 = X) (h5 : S 46 5 = Y) (h6 : S 46 6 = u) (hu : 0 ≤ u ∧ u ≤ 5000) (h7 : S 46 7 = min u 413) : zP (M_X10_arrive w S) (fun _ A => zFr [47, 48] wkO S A ∧ (A 46 2 = W ∧ A 46 3 = H ∧ A 46 4 = X ∧ A 46 5 = Y) ∧ (pIn W H X Y → A 46 8 = 0 ∧ A 46 6 = u + 1 ∧ A 46 7 = min (u + 1) 413 ∧ (∀ j : Int, j < min u 413 → A 47 j = S 47 j ∧ A 48 j = S 48 j) ∧ (u < 413 → A 47 u = W * Y + X ∧ A 48 u = w)) ∧ (¬ pIn W H X Y → A 46 8 = 1 ∧ A 46 6 = u ∧ A 46 7 = min u 413 ∧ A 47 = S 47 ∧ A 48 = S 48)) := by
  have out : ¬ pIn W H X Y → zP (J_X10_arrive_42 w 1 S) (fun _ A => zFr [47, 48] wkO S A ∧ (A 46 2 = W ∧ A 46 3 = H ∧ A 46 4 = X ∧ A 46 5 = Y) ∧ (pIn W H X Y → A 46 8 = 0 ∧ A 46 6 = u + 1 ∧ A 46 7 = min (u + 1) 413 ∧ (∀ j : Int, j < min u 413 → A 47 j = S 47 j ∧ A 48 j = S 48 j) ∧ (u < 413 → A 47 u = W * Y + X ∧ A 48 u = w)) ∧ (¬ pIn W H X Y → A 46 8 = 1 ∧ A 46 6 = u ∧ A 46 7 = min u 413 ∧ A 47 = S 47 ∧ A 48 = S 48)) := by
    intro hp
    unfold J_X10_arrive_42
    rw [zg_in (Or.inr rfl), zs_in, up_eq, if_neg (by decide), zP_ret]
    have c : ∀ i : Int, i ≠ 8 → up S 46 8 1 46 i = S 46 i := fun i hi => by rw [up_same, if_neg hi]
    refine ⟨zfr_upO zFr.rf (by decide), ⟨?_, ?_, ?_, ?_⟩, fun z => absurd z hp, fun _ => ⟨up_eq .., ?_, ?_, ?_, ?_⟩⟩
    · rw [c 2 (by decide), h2]
    · rw [c 3 (by decide), h3]
    · rw [c 4 (by decide), h4]
    · rw [c 5 (by decide), h5]
    · rw [c 6 (by decide), h6]
    · rw [c 7 (by decide), h7]
    · funext q
      rw [up_cell _ (by decide)]
    · funext q
      rw [up_cell _ (by decide)]
  unfold M_X10_arrive J_X10_arrive_37
  rw [h4, h5, h2, h3]
  by_cases a1 : X < 0
  · rw [if_pos a1]
    exact out (fun z => by unfold pIn at z; omega)
  · rw [if_neg a1]
    by_cases a2 : W ≤ X
    · rw [if_pos a2]
      exact out (fun z => by unfold pIn at z; omega)
    · rw [if_neg a2]
      by_cases a3 : Y < 0
      · rw [if_pos a3]
        exact out (fun z => by unfold pIn at z; omega)
      · rw [if_neg a3]
        by_cases a4 : Y < H
        · have hp : pIn W H X Y := by
            unfold pIn
            omega
          have rg : 0 ≤ W * Y + X ∧ W * Y + X ≤ 300 := by
            rcases hW with ⟨rfl, rfl⟩ | ⟨rfl, rfl⟩ <;> omega
          rw [if_pos a4]
          unfold J_X10_arrive_42
          rw [zg_in (Or.inl rfl), zs_in, up_eq, if_pos rfl]
          have e6 : up S 46 8 0 46 6 = u := by rw [up_same, if_neg (by decide), h6]
          rw [e6, zl_in (by omega), zs_in]
          generalize hA : up (up S 46 8 0) 46 6 (u + 1) = A
          have cA : ∀ i : Int, i ≠ 8 → i ≠ 6 → A 46 i = S 46 i := fun i hi h6 => by rw [← hA, up_same, if_neg h6, up_same, if_neg hi]
          have A6 : A 46 6 = u + 1 := by rw [← hA, up_eq]
          have A8 : A 46 8 = 0 := by rw [← hA, up_same, if_neg (by decide), up_eq]
          have A47 : ∀ k : Nat, k ≠ 46 → A k = S k := fun k hk => by
            funext q
            rw [← hA, up_cell _ hk, up_cell _ hk]
          have fA : zFr [47, 48] wkO S A := by
            rw [← hA]
            exact zfr_upO (zfr_upO zFr.rf (by decide)) (by decide)
          have A2 := cA 2 (by decide) (by decide)
          have A3 := cA 3 (by decide) (by decide)
          have A4 := cA 4 (by decide) (by decide)
          have A5 := cA 5 (by decide) (by decide)
          have A7 := cA 7 (by decide) (by decide)
          rw [A7, h7]
          by_cases g : 413 ≤ u
          · rw [if_pos (by omega), zP_ret]
            exact ⟨fA, ⟨by rw [A2, h2], by rw [A3, h3], by rw [A4, h4], by rw [A5, h5]⟩, fun _ => ⟨A8, A6, by omega, fun j hj => ⟨by rw [A47 47 (by decide)], by rw [A47 48 (by decide)]⟩, fun z => by omega⟩, fun z => absurd hp z⟩
          · have em : min u 413 = u := by omega
            rw [em]
            rw [if_neg (by omega), A2, A5, A4, h2, h5, h4, zl_in (by omega), zg_in (by omega), zs_in]
            have B7 : up A 47 u (W * Y + X) 46 7 = u := by
              rw [up_cell _ (by decide)]
              omega
            rw [B7, zg_in (by omega), zs_in]
            have C7 : up (up A 47 u (W * Y + X)) 48 u w 46 7 = u := by
              rw [up_cell _ (by decide)]
              exact B7
            rw [C7, zl_in (by omega), zs_in, zP_ret]
            have c46 : ∀ i : Int, i ≠ 7 → up (up (up A 47 u (W * Y + X)) 48 u w) 46 7 (u + 1) 46 i = A 46 i := fun i hi => by rw [up_same, if_neg hi, up_cell _ (by decide), up_cell _ (by decide)]
            refine ⟨zfr_upO (zfr_up (zfr_up fA (by decide)) (by decide)) (by decide), ⟨by rw [c46 2 (by decide), A2, h2], by rw [c46 3 (by decide), A3, h3], by rw [c46 4 (by decide), A4, h4], by rw [c46 5 (by decide), A5, h5]⟩, fun _ => ⟨by rw [c46 8 (by decide), A8], by rw [c46 6 (by decide), A6], ?_, fun j hj => ⟨?_, ?_⟩, fun _ => ⟨?_, ?_⟩⟩, fun z => absurd hp z⟩
            · rw [up_eq]
              omega
            · rw [up_cell _ (by decide), up_cell _ (by decide), up_same, if_neg (by omega), A47 47 (by decide)]
            · rw [up_cell _ (by decide), up_same, if_neg (by omega), up_cell _ (by decide), A47 48 (by decide)]
            · rw [up_cell _ (by decide), up_cell _ (by decide), up_eq]
            · rw [up_cell _ (by decide), up_eq]
        · rw [if_neg a4]
          exact out (fun z => by unfold pIn at z; omega)
/-- one place more of the reference -/
def pSh (T : HS) (x y : Int) : HS := up (up (up T 61 (T 51 19) x) 62 (T 51 19) y) 51 19 (T 51 19 + 1)
theorem pSh_0 {T : HS} {x y : Int} : pSh T x y 51 19 = T 51 19 + 1 ∧ (∀ j : Int, pSh T x y 61 j = if j = T 51 19 then x else T 61 j) ∧ (∀ j : Int, pSh T x y 62 j = if j = T 51 19 then y else T 62 j) ∧ zFr [61, 62] [(51, 19)] T (pSh T x y) := by
  unfold pSh
  refine ⟨up_eq .., fun j => ?_, fun j => ?_, zfr_upO (zfr_up (zfr_up zFr.rf (by decide)) (by decide)) (by decide)⟩
  · rw [up_cell _ (by decide), up_cell _ (by decide), up_same]
  · rw [up_cell _ (by decide), up_same, up_cell _ (by decide)]
theorem m_push {T : HS} {k183 : Int → Int → Int → HS → zO2} {k253 : Int → Int → HS → zO2} {v1 v2 v6 v7 v8 v9 v10 v11 v12 t0 t1 : Int} (h : 0 ≤ T 51 19 ∧ T 51 19 < 4100) (hx : -10000 ≤ v6 ∧ v6 ≤ 10000) (hy : -10000 ≤ v7 ∧ v7 ≤ 10000) (h9 : -1 ≤ v9 ∧ v9 ≤ 1) (h10 : -1 ≤ v10 ∧ v10 ≤ 1) (h12 : 0 ≤ v12 ∧ v12 ≤ 100) (ht : ¬ t0 ≤ t1) : J_X12_goes_198 k183 k253 v1 v2 v6 v7 v8 v9 v10 v11 v12 t0 t1 T = k183 (v6 + v9) (v7 + v10) (v12 + 1) (pSh T (v6 + v9) (v7 + v10)) := by
  unfold J_X12_goes_198
  rw [if_neg ht, zl_in (by omega), zl_in (by omega), zg_in h, zs_in]
  have e1 : up T 61 (T 51 19) (v6 + v9) 51 19 = T 51 19 := by rw [up_cell _ (by decide)]
  rw [e1, zg_in h, zs_in]
  have e2 : up (up T 61 (T 51 19) (v6 + v9)) 62 (T 51 19) (v7 + v10) 51 19 = T 51 19 := by rw [up_cell _ (by decide), e1]
  rw [e2, zl_in (by omega), zs_in, zl_in (by omega)]
  rfl
theorem pSh_off {W H x y vx vy : Int} {T : HS} (h : wkR W H S T vx vy) (ho : S 46 8 = 1) : wkR W H S (pSh T x y) x y := by
  obtain ⟨p1, p2, p3, p4⟩ := pSh_0 (T := T) (x := x) (y := y)
  obtain ⟨⟨a1, a2, a3⟩, b, c, d, e, f⟩ := h
  rcases c with c | ⟨c1, c2, c3⟩
  · omega
  · refine ⟨⟨by omega, a2, a3⟩, ⟨?_, ?_⟩, Or.inr ⟨c1, by omega, ?_⟩, fun j j0 j1 => ?_, e, fun j j0 j1 => ?_⟩
    · rw [p1, p2, if_pos (by omega)]
    · rw [p1, p3, if_pos (by omega)]
    · rw [p2, p3, if_neg (by omega), if_neg (by omega)]
      exact c3
    · rw [p2, p3, if_neg (by omega), if_neg (by omega)]
      exact d j j0 j1
    · have z := f j j0 j1
      unfold wkS at z ⊢
      rw [p2, p3, p2, p3, if_neg (by omega), if_neg (by omega), if_neg (by omega), if_neg (by omega)]
      exact z
theorem pSh_on {W H x y vx vy w u : Int} {T A : HS} (h : wkR W H S T vx vy) (h0 : S 46 8 = 0) (hu : S 46 6 = u) (hw : 0 ≤ w ∧ w ≤ 3) (hx : x = vx + gAcr w) (hy : y = vy + gDwn w) (a2 : A 46 2 = W) (a3 : A 46 3 = H) (a4 : A 46 4 = x) (a5 : A 46 5 = y) (hi : pIn W H x y → A 46 8 = 0 ∧ A 46 6 = u + 1 ∧ A 46 7 = min (u + 1) 413 ∧ (∀ j : Int, j < min u 413 → A 47 j = S 47 j ∧ A 48 j = S 48 j) ∧ (u < 413 → A 47 u = W * y + x ∧ A 48 u = w)) (ho : ¬ pIn W H x y → A 46 8 = 1 ∧ A 46 6 = u ∧ A 46 7 = min u 413 ∧ A 47 = S 47 ∧ A 48 = S 48) : wkR W H A (pSh T x y) x y := by
  obtain ⟨p1, p2, p3, p4⟩ := pSh_0 (T := T) (x := x) (y := y)
  obtain ⟨⟨b1, b2, b3⟩, ⟨b4, b5⟩, c, d, ⟨e1, e2⟩, f⟩ := h
  rcases c with ⟨c1, c2, c3, c4⟩ | c
  · have cu : u = T 51 19 := by omega
    have old : ∀ j : Int, j < u → pSh T x y 61 j = T 61 j ∧ pSh T x y 62 j = T 62 j := fun j hj => by
      rw [p2, p3, if_neg (by omega), if_neg (by omega)]
      exact ⟨rfl, rfl⟩
    have new : pSh T x y 61 u = x ∧ pSh T x y 62 u = y := by
      rw [p2, p3, if_pos cu, if_pos cu]
      exact ⟨rfl, rfl⟩
    have keep : ∀ j : Int, 0 ≤ j → j < min u 413 → A 47 j = S 47 j → A 48 j = S 48 j → wkS A (pSh T x y) j W := by
      intro j j0 j1 x1 x2
      have z := f j j0 (by omega)
      unfold wkS at z ⊢
      rw [(old j (by omega)).1, (old j (by omega)).2, (old (j - 1) (by omega)).1, (old (j - 1) (by omega)).2, x1, x2]
      exact z
    by_cases g : pIn W H x y
    · obtain ⟨q1, q2, q3, q4, q5⟩ := hi g
      refine ⟨⟨by omega, a2, a3⟩, ⟨?_, ?_⟩, Or.inl ⟨q1, by omega, a4, a5⟩, fun j j0 j1 => ?_, ⟨by omega, by rw [q3, q2]⟩, fun j j0 j1 => ?_⟩
      · rw [p1, show T 51 19 + 1 - 1 = u by omega]
        exact new.1
      · rw [p1, show T 51 19 + 1 - 1 = u by omega]
        exact new.2
      · by_cases y1 : j = u
        · rw [y1, new.1, new.2]
          exact g
        · rw [(old j (by omega)).1, (old j (by omega)).2]
          exact d j j0 (by omega)
      · by_cases y1 : j = u
        · subst y1
          have z := q5 (by omega)
          unfold wkS
          rw [new.1, new.2, z.1, z.2, (old (j - 1) (by omega)).1, (old (j - 1) (by omega)).2]
          refine ⟨rfl, fun _ => ⟨hw, ?_, ?_⟩⟩
          · rw [cu, b4]
            exact hx
          · rw [cu, b5]
            exact hy
        · have z := q4 j (by omega)
          exact keep j j0 (by omega) z.1 z.2
    · obtain ⟨q1, q2, q3, q4, q5⟩ := ho g
      refine ⟨⟨by omega, a2, a3⟩, ⟨?_, ?_⟩, Or.inr ⟨q1, by omega, ?_⟩, fun j j0 j1 => ?_, ⟨by omega, by rw [q3, q2]⟩, fun j j0 j1 => ?_⟩
      · rw [p1, show T 51 19 + 1 - 1 = u by omega]
        exact new.1
      · rw [p1, show T 51 19 + 1 - 1 = u by omega]
        exact new.2
      · rw [q2, new.1, new.2]
        exact g
      · rw [(old j (by omega)).1, (old j (by omega)).2]
        exact d j j0 (by omega)
      · exact keep j j0 (by omega) (by rw [q4]) (by rw [q5])
  · omega
/-- straight on, by both -/
theorem go_on {W H w : Int} {k253 : Int → Int → HS → zO2} {p1 p2 p8 p9 p10 p11 L : Int} (hW : W = 17 ∧ H = 13 ∨ W = 16 ∧ H = 12) (hw : 0 ≤ w ∧ w ≤ 3) (h9 : 1 ≤ L → p9 = gAcr w) (h10 : 1 ≤ L → p10 = gDwn w) (hL : 0 ≤ L ∧ L ≤ 16) (h11 : p11 = L ∨ p11 = -L) : ∀ (r : Nat) (v : Int) (S T : HS) (vx vy : Int) (NC NM : Nat), v + r = L → 0 ≤ v → r < NC → r < NM → wkR W H S T vx vy → T 51 19 + r ≤ 4050 → (-1000 - T 51 19 ≤ vx ∧ vx ≤ 1000 + T 51 19) → (-1000 - T 51 19 ≤ vy ∧ vy ≤ 1000 + T 51 19) → ∃ (S' T' : HS) (vx' vy' : Int), L_X10_go_2 w L NC v S = some (0, S') ∧ L_X12_goes_183 k253 p1 p2 p8 p9 p10 p11 NM vx vy v T = k253 vx' vy' T' ∧ wkR W H S' T' vx' vy' ∧ T' 51 19 = T 51 19 + r ∧ (-1000 - T' 51 19 ≤ vx' ∧ vx' ≤ 1000 + T' 51 19) ∧ (-1000 - T' 51 19 ≤ vy' ∧ vy' ≤ 1000 + T' 51 19) ∧ zFr [47, 48] wkO S S' ∧ zFr [61, 62] [(51, 19)] T T' := by
  intro r
  induction r with
  | zero =>
    intro v S T vx vy NC NM hv v0 hNC hNM hR hT hx hy
    obtain ⟨NC, rfl⟩ : ∃ N', NC = N' + 1 := ⟨NC - 1, by omega⟩
    obtain ⟨NM, rfl⟩ : ∃ N', NM = N' + 1 := ⟨NM - 1, by omega⟩
    refine ⟨S, T, vx, vy, ?_, ?_, hR, by omega, hx, hy, zFr.rf, zFr.rf⟩
    · rw [L_X10_go_2.eq_2, if_pos (by omega)]
    · rw [L_X12_goes_183.eq_2]
      unfold J_X12_goes_198
      by_cases g : 0 ≤ p11
      · rw [if_pos g, if_pos (by omega)]
      · rw [if_neg g, zl_in (by omega), if_pos (by omega)]
  | succ r ih =>
    intro v S T vx vy NC NM hv v0 hNC hNM hR hT hx hy
    obtain ⟨NC, rfl⟩ : ∃ N', NC = N' + 1 := ⟨NC - 1, by omega⟩
    obtain ⟨NM, rfl⟩ : ∃ N', NM = N' + 1 := ⟨NM - 1, by omega⟩
    have e9 := h9 (by omega)
    have e10 := h10 (by omega)
    have r9 := gAcr_r (w := w)
    have r10 := gDwn_r (w := w)
    have hN1 := hR.1.1
    have mstep : L_X12_goes_183 k253 p1 p2 p8 p9 p10 p11 (NM + 1) vx vy v T = L_X12_goes_183 k253 p1 p2 p8 p9 p10 p11 NM (vx + p9) (vy + p10) (v + 1) (pSh T (vx + p9) (vy + p10)) := by
      rw [L_X12_goes_183.eq_2]
      by_cases g : 0 ≤ p11
      · rw [if_pos g, m_push (by omega) (by omega) (by omega) (by omega) (by omega) (by omega) (by omega)]
      · rw [if_neg g, zl_in (by omega), m_push (by omega) (by omega) (by omega) (by omega) (by omega) (by omega) (by omega)]
    obtain ⟨p1', p2', p3', p4'⟩ := pSh_0 (T := T) (x := vx + p9) (y := vy + p10)
    have c8 : S 46 8 = 0 ∨ S 46 8 = 1 := by
      rcases hR.2.2.1 with z | z
      · exact Or.inl z.1
      · exact Or.inr z.1
    rcases c8 with c8 | c8
    · -- the class goes one on too
      have hR' := hR
      obtain ⟨⟨a1, a2, a3⟩, ⟨a4, a5⟩, c, d, ⟨e1, e2⟩, f⟩ := hR'
      rcases c with ⟨c1, c2, c3, c4⟩ | c
      · have s4 : up S 46 4 (vx + p9) 46 4 = vx + p9 := up_eq ..
        obtain ⟨ra, A, eA, hA⟩ := e_arrive (S := up (up S 46 4 (vx + p9)) 46 5 (vy + p10)) (W := W) (H := H) (X := vx + p9) (Y := vy + p10) (u := S 46 6) (w := w) hW (by rw [up_same, if_neg (by decide), up_same, if_neg (by decide), a2]) (by rw [up_same, if_neg (by decide), up_same, if_neg (by decide), a3]) (by rw [up_same, if_neg (by decide), up_eq]) (by rw [up_eq]) (by rw [up_same, if_neg (by decide), up_same, if_neg (by decide)]) (by omega) (by rw [up_same, if_neg (by decide), up_same, if_neg (by decide), e2])
        obtain ⟨fA, ⟨q2, q3, q4, q5⟩, qi, qo⟩ := hA
        have cst : L_X10_go_2 w L (NC + 1) v S = L_X10_go_2 w L NC (v + 1) A := by
          rw [L_X10_go_2.eq_2, if_neg (by omega), if_pos c8, e_acr, zb_some, c3, zl_in (by omega), zs_in, e_dwn, zb_some]
          have s5 : up S 46 4 (vx + gAcr w) 46 5 = vy := by rw [up_same, if_neg (by decide), c4]
          rw [s5, zl_in (by omega), zs_in, ← e9, ← e10, eA, zb_some, zl_in (by omega)]
        have k47 : up (up S 46 4 (vx + p9)) 46 5 (vy + p10) 47 = S 47 := by
          funext q
          rw [up_cell _ (by decide), up_cell _ (by decide)]
        have k48 : up (up S 46 4 (vx + p9)) 46 5 (vy + p10) 48 = S 48 := by
          funext q
          rw [up_cell _ (by decide), up_cell _ (by decide)]
        rw [k47, k48] at qi qo
        have hR2 : wkR W H A (pSh T (vx + p9) (vy + p10)) (vx + p9) (vy + p10) := pSh_on hR c8 rfl hw (by rw [e9]) (by rw [e10]) q2 q3 q4 q5 qi qo
        obtain ⟨S', T', vx', vy', g1, g2, g3, g4, g5, g6, g7, g8⟩ := ih (v + 1) A (pSh T (vx + p9) (vy + p10)) (vx + p9) (vy + p10) NC NM (by omega) (by omega) (by omega) (by omega) hR2 (by omega) (by omega) (by omega)
        exact ⟨S', T', vx', vy', cst.trans g1, mstep.trans g2, g3, by omega, g5, g6, zFr.trans (zFr.trans (zfr_upO (zfr_upO zFr.rf (by decide)) (by decide)) fA) g7, zFr.trans p4' g8⟩
      · omega
    · -- the class is off
      have cst : ∀ (N : Nat) (v : Int), L_X10_go_2 w L (N + 1) v S = some (0, S) := by
        intro N v
        rw [L_X10_go_2.eq_2]
        by_cases g : L ≤ v
        · rw [if_pos g]
        · rw [if_neg g, if_neg (by omega)]
      have hR2 := pSh_off (x := vx + p9) (y := vy + p10) hR c8
      obtain ⟨N2, rfl⟩ : ∃ N', NC = N' + 1 := ⟨NC - 1, by omega⟩
      obtain ⟨S', T', vx', vy', g1, g2, g3, g4, g5, g6, g7, g8⟩ := ih (v + 1) S (pSh T (vx + p9) (vy + p10)) (vx + p9) (vy + p10) (N2 + 1) NM (by omega) (by omega) (by omega) (by omega) hR2 (by omega) (by omega) (by omega)
      rw [cst] at g1
      exact ⟨S', T', vx', vy', (cst _ _).trans g1, mstep.trans g2, g3, by omega, g5, g6, g7, zFr.trans p4' g8⟩
end WK
