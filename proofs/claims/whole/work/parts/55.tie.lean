/-! done, join, feed -/
theorem zsum_upd {f g : Int → Int} {n : Nat} {a : Int} (h0 : 0 ≤ a) (hn : a < n) (h : ∀ i : Int, 0 ≤ i → i < n → i ≠ a → g i = f i) : zsum g n = zsum f n + (g a - f a) := by
  induction n with
  | zero => omega
  | succ n ih =>
    rw [zsum_s, zsum_s]
    by_cases e : a = n
    · rw [zsum_congr (f := g) (g := f) (fun i x y => h i x (by omega) (by omega)), e]
      omega
    · rw [ih (by omega) (fun i x y z => h i x (by omega) z), h n (by omega) (by omega) (fun x => e x.symm)]
      omega
theorem zsum_pos {f : Int → Int} {n : Nat} {a : Int} (h0 : 0 ≤ a) (hn : a < n) (h : ∀ i : Int, 0 ≤ i → i < n → 0 ≤ f i) : f a ≤ zsum f n := by
  have e := zsum_upd (f := f) (g := fun i => if i = a then 0 else f i) h0 hn (fun i _ _ z => if_neg z)
  have p := (zsum_bd (f := fun i => if i = a then 0 else f i) (n := n) (c := f a + zsum f n)) 
  have q : 0 ≤ zsum (fun i => if i = a then 0 else f i) n := by
    have := zsum_le (f := fun _ => 0) (g := fun i => if i = a then 0 else f i) (n := n) (fun i x y => by
      show (0 : Int) ≤ if i = a then 0 else f i
      split
      · omega
      · exact h i x y)
    rw [zsum_0 (fun _ _ _ => rfl)] at this
    exact this
  simp only [if_true] at e
  omega
theorem zfin2 {A : List Nat} {O : List (Nat × Int)} {B : Int → Prop} {S : HS} {m1 : zO2} {m2 : HS → zO2} {r : Int} (hI : Inv S) (e1 : m1 = some (r, S)) (w2 : zW A O B S (m2 S)) (e2 : zP (m2 S) (fun r' U => r' = r ∧ U = up S 51 0 0)) : ∃ (r : Int) (S1 S2 : HS), m1 = some (r, S1) ∧ WR shF S1 ∧ m2 S1 = some (r, S2) ∧ Inv S2 := by
  obtain ⟨r', U, e, q, q2⟩ := e2
  subst q
  obtain ⟨-, W2, -⟩ := w2 _ _ e
  subst q2
  obtain ⟨hW, iL, iT, iW, iP, iR, iM, iA, iG, iC, iE, iK, iB⟩ := hI
  exact ⟨_, _, _, e1, hW, e, W2, iL, iT, iW, iP, iR, iM, iA, iG, iC, iE, iK, iB⟩
section TI
variable {S : HS}
theorem ok_20 (hI : Inv S) : OK_20 Inv S := by
  obtain ⟨hW, iL, iT, iW, iP, iR, iM, iA, iG, iC, iE, iK, iB⟩ := id hI
  have r0 := iR.1
  show ∃ (r : Int) (S1 S2 : HS), M_X11_done S = some (r, S1) ∧ WR shF S1 ∧ M_X12_done S1 = some (r, S2) ∧ Inv S2
  refine zcallQ hW (W_M_X11_done hW) (fun T w => W_M_X12_done w) ?_
  unfold M_X11_done
  refine zloop (b := S 7 11) (fun v T => 0 ≤ v ∧ v ≤ S 7 11 ∧ (∀ k i, k ≠ 15 → T k i = S k i) ∧ ∀ i : Int, T 15 i = if 0 ≤ i ∧ i < v then S 1 2 else S 15 i) (fun n v T hJ hv => ?_) (fun n v T hJ hv ih => ?_) _ _ _ ⟨by omega, by omega, fun _ _ _ => rfl, fun i => by rw [if_neg (by omega)]⟩ (zbig (by omega))
  · obtain ⟨h1, h2, h3, h4⟩ := hJ
    have ev : v = S 7 11 := by omega
    subst ev
    have t1 : T 7 11 = S 7 11 := h3 7 11 (by decide)
    rw [L_X11_done_2.eq_2, if_pos (by omega), zP_ret]
    intro hT
    unfold M_X12_done
    rw [zP_zs]
    refine zloop (b := S 7 11) (fun v U => 0 ≤ v ∧ v ≤ S 7 11 ∧ (∀ k i, k ≠ 71 → U k i = up T 51 0 0 k i) ∧ ∀ i : Int, U 71 i = if 0 ≤ i ∧ i < v then S 1 2 else S 71 i) (fun n v U hJ hv => ?_) (fun n v U hJ hv ih => ?_) _ _ _ ⟨by omega, by omega, fun _ _ _ => rfl, fun i => by rw [if_neg (by omega)]; exact h3 71 i (by decide)⟩ (zbig (by omega))
    · obtain ⟨j1, j2, j3, j4⟩ := hJ
      have ev : v = S 7 11 := by omega
      subst ev
      have u1 : U 51 27 = S 7 11 := by
        rw [j3 51 27 (by decide), ← iR.1.1]
        exact h3 51 27 (by decide)
      rw [L_X12_done_7.eq_2, if_pos (by omega), zP_ret]
      refine ⟨by rw [u1, t1], ?_⟩
      have kk : ∀ k i, k ≠ 15 → k ≠ 71 → U k i = up S 51 0 0 k i := fun k i a b => by
        rw [j3 k i b]
        show (if k = 51 ∧ i = 0 then (0 : Int) else T k i) = if k = 51 ∧ i = 0 then (0 : Int) else S k i
        rw [h3 k i a]
      have kf : ∀ k, k ≠ 15 → k ≠ 71 → U k = up S 51 0 0 k := fun k a b => funext fun i => kk k i a b
      have iM' : iMark U := by
        unfold iMark
        rw [kf 7 (by decide) (by decide), kf 72 (by decide) (by decide), kf 14 (by decide) (by decide), kf 51 (by decide) (by decide), kf 1 (by decide) (by decide)]
        refine ⟨fun r a b => ?_, iM.2⟩
        have := iM.1 r a b
        have u15 : U 15 r = S 1 2 := by
          rw [j3 15 r (by decide)]
          show T 15 r = _
          rw [h4, if_pos ⟨a, b⟩]
        have u71 : U 71 r = S 1 2 := by rw [j4, if_pos ⟨a, b⟩]
        have l5 := iL.2.2.2.2
        rw [u15, u71]
        simp only [up_eq, up_ne, up_nf, Nat.reduceBEq, Int.reduceBEq, true_and, and_true]
        omega
      have X : ∀ P : HS → Prop, ∀ A : List Nat, P U → P U := fun _ _ h => h
      have hc : ∀ (P : HS → Prop), (∀ V, P V = P (fun k i => if k = 15 ∨ k = 71 then 0 else V k i)) → P (up S 51 0 0) → P U := by
        intro P hP h
        rw [hP] at h ⊢
        have e : (fun k i => if k = 15 ∨ k = 71 then (0 : Int) else U k i) = (fun k i => if k = 15 ∨ k = 71 then (0 : Int) else up S 51 0 0 k i) := by
          funext k i
          by_cases q : k = 15 ∨ k = 71
          · rw [if_pos q, if_pos q]
          · rw [if_neg q, if_neg q, kk k i (fun x => q (Or.inl x)) (fun x => q (Or.inr x))]
        rw [e]
        exact h
      exact ⟨hc iLen (fun _ => rfl) iL, hc iTape (fun _ => rfl) iT, hc iWords (fun _ => rfl) iW, hc iPart (fun _ => rfl) iP, hc iRow (fun _ => rfl) iR, iM', hc iAdd (fun _ => rfl) iA, hc iProg (fun _ => rfl) iG, hc iCrew (fun _ => rfl) iC, hc iReg (fun _ => rfl) iE, hc iTak (fun _ => rfl) iK, hc iBrd (fun _ => rfl) iB⟩
    · obtain ⟨j1, j2, j3, j4⟩ := hJ
      have u1 : U 51 27 = S 7 11 := by
        rw [j3 51 27 (by decide), ← iR.1.1]
        exact h3 51 27 (by decide)
      have u2 : U 51 38 = S 1 2 := by
        rw [j3 51 38 (by decide), ← iL.2.2.2.1]
        exact h3 51 38 (by decide)
      rw [L_X12_done_7.eq_2, if_neg (by omega), zg_in (by omega), zP_zs, zl_in (by omega)]
      refine ih _ ⟨by omega, by omega, fun k i hk => ?_, fun i => ?_⟩
      · rw [up_cell _ hk]
        exact j3 k i hk
      · rw [up_same, j4, u2]
        repeat' split
        all_goals first | rfl | (exfalso; omega)
  · obtain ⟨h1, h2, h3, h4⟩ := hJ
    have t1 : T 7 11 = S 7 11 := h3 7 11 (by decide)
    rw [L_X11_done_2.eq_2, if_neg (by omega)]
    unfold M_X6_putWeek
    rw [e_has, zb_some, zif1 (by omega), if_neg (by decide), zg_in (by omega), zP_zb, zP_zs, zP_ret, zl_in (by omega)]
    refine ih _ ⟨by omega, by omega, fun k i hk => ?_, fun i => ?_⟩
    · rw [up_cell _ hk]
      exact h3 k i hk
    · rw [up_same, h4, h3 1 2 (by decide)]
      repeat' split
      all_goals first | rfl | (exfalso; omega)
theorem ok_14 (hI : Inv S) : OK_14 Inv S := by
  intro a b c ra rb rc
  obtain ⟨hW, iL, iT, iW, iP, iR, iM, iA, iG, iC, iE, iK, iB⟩ := id hI
  have r0 := iR.1
  by_cases q : ((0 ≤ a ∧ a < S 7 11) ∧ (0 ≤ b ∧ b < S 7 11) ∧ (0 ≤ c ∧ c < S 7 11)) ∧ (a ≠ b ∧ a ≠ c ∧ b ≠ c) ∧ S 14 a = -1 ∧ S 14 b = -1 ∧ S 14 c = -1
  · obtain ⟨⟨q1, q2, q3⟩, ⟨n1, n2, n3⟩, t1, t2, t3⟩ := q
    obtain ⟨v1, x1, y1⟩ := e_endNear iR q1.1 q1.2 q2.1 q2.2
    obtain ⟨v2, x2, y2⟩ := e_endNear iR q1.1 q1.2 q3.1 q3.2
    obtain ⟨v3, x3, y3⟩ := e_endNear iR q2.1 q2.2 q3.1 q3.2
    have m1 := iM.1 a q1.1 q1.2
    have m2 := iM.1 b q2.1 q2.2
    have m3 := iM.1 c q3.1 q3.2
    have z2 := y1 (up S 51 0 0) rfl rfl
    have z3 := y2 (up S 51 0 0) rfl rfl
    have z4 := y3 (up S 51 0 0) rfl rfl
    have ti : ∀ x : Int, 0 ≤ x → x < S 7 11 → S 14 x = -1 → M_X6_isTied x S = some (0, S) := by
      intro x h1 h2 h3
      unfold M_X6_isTied
      rw [e_knotWith iR.c, zb_some, if_pos (show 0 ≤ x ∧ x < S 7 11 from ⟨h1, h2⟩), if_pos h3]
    have ec : M_X6_canTie a b c S = some (if v1 ≠ 0 ∧ v2 ≠ 0 ∧ v3 ≠ 0 then 1 else 0, S) := by
      unfold M_X6_canTie
      simp only [e_has, zb_some, zif1 (show 0 ≤ a ∧ a < S 7 11 ∧ a < 24 by omega), zif1 (show 0 ≤ b ∧ b < S 7 11 ∧ b < 24 by omega), zif1 (show 0 ≤ c ∧ c < S 7 11 ∧ c < 24 by omega), if_neg n1, if_neg n2, if_neg n3, ti a q1.1 q1.2 t1, ti b q2.1 q2.2 t2, ti c q3.1 q3.2 t3, x1, x2, x3, if_true, if_neg (show ¬ (1 : Int) = 0 by decide)]
      repeat' split
      all_goals first | rfl | (exfalso; omega) | simp_all
    by_cases w : v1 ≠ 0 ∧ v2 ≠ 0 ∧ v3 ≠ 0
    · refine zcallQ hW (W_M_X11_join ra rb rc hW) (fun T w => W_M_X12_join ra rb rc w) ?_
      unfold M_X11_join
      rw [ec, zb_some, zif1 w, if_neg (by decide)]
      unfold M_X6_tie J_X6_tie_64
      have hb : S 7 12 ≤ 24 := by
        have h1 := iM.2.2.2
        have h2 := (zsum_bd (f := fun r => if 0 ≤ S 14 r then (1 : Int) else 0) (n := (S 7 11).toNat) (c := 1) (fun i _ _ => by show 0 ≤ (if 0 ≤ S 14 i then (1 : Int) else 0) ∧ (if 0 ≤ S 14 i then (1 : Int) else 0) ≤ 1; split <;> omega)).2
        omega
      simp only [zP_zl, zP_zl6, zP_zg, zP_zs, zP_zb, zP_ite, zP_ret, zP_none, e_has, zif1 (show 0 ≤ a ∧ a < S 7 11 ∧ a < 24 by omega), zif1 (show 0 ≤ b ∧ b < S 7 11 ∧ b < 24 by omega), zif1 (show 0 ≤ c ∧ c < S 7 11 ∧ c < 24 by omega), up_eq, up_ne, up_nf, Nat.reduceBEq, Int.reduceBEq, true_and, and_true]
      refine ⟨fun h => absurd h (by decide), fun _ => ⟨fun h => absurd h (by decide), fun _ => ⟨fun h => absurd h (by decide), fun _ => ⟨by omega, by omega, by omega, by omega, fun hw => ?_⟩⟩⟩⟩
      have z5 := fun (i j v : Int) (h : ∀ T : HS, T 69 = S 69 → T 70 = S 70 → M_X12_areNear i j T = some (v, T)) => h (up (up (up (up (up S 14 a (S 7 12)) 14 b (S 7 12)) 14 c (S 7 12)) 7 12 (S 7 12 + 1)) 51 0 0) rfl rfl
      unfold M_X12_join
      rw [zP_zs]
      have k72 : ∀ i : Int, 0 ≤ i → i < S 7 11 → S 72 i = S 14 i := fun i h1 h2 => (iM.1 i h1 h2).2.2.2.1
      have e1 := k72 a q1.1 q1.2
      have e2 := k72 b q2.1 q2.2
      have e3 := k72 c q3.1 q3.2
      have eM := iM.2.1
      simp only [m_isRow, zb_some, up_eq, up_ne, up_nf, Nat.reduceBEq, Int.reduceBEq, true_and, and_true, iR.1.1, zif1 q1, zif1 q2, zif1 q3, if_neg n1, if_neg n2, if_neg n3, if_neg (show ¬ (1 : Int) = 0 by decide)]
      rw [zg_in (by omega), if_neg (by omega), zg_in (by omega), if_neg (by omega), zg_in (by omega), if_neg (by omega), z5 _ _ _ y1, zb_some, if_neg w.1, z5 _ _ _ y2, zb_some, if_neg w.2.1, z5 _ _ _ y3, zb_some, if_neg w.2.2]
      simp only [zP_zl, zP_zl6, zP_zg, zP_zs, zP_zb, zP_ite, zP_ret, zP_none, up_eq, up_ne, up_nf, Nat.reduceBEq, Int.reduceBEq, true_and, and_true, eM]
      refine ⟨by omega, by omega, by omega, by omega, ?_⟩
      generalize hT : (up (up (up (up (up (up (up (up (up S 14 a (S 7 12)) 14 b (S 7 12)) 14 c (S 7 12)) 7 12 (S 7 12 + 1)) 51 0 0) 72 a (S 7 12)) 72 b (S 7 12)) 72 c (S 7 12)) 51 54 (S 7 12 + 1)) = T
      have u14 : ∀ i : Int, T 14 i = if i = a ∨ i = b ∨ i = c then S 7 12 else S 14 i := by
        intro i
        rw [← hT]
        simp only [up_eq, up_ne, up_nf, Nat.reduceBEq, Int.reduceBEq, true_and, and_true, up_same]
        repeat' split
        all_goals first | rfl | (exfalso; omega)
      have u72 : ∀ i : Int, T 72 i = if i = a ∨ i = b ∨ i = c then S 7 12 else S 72 i := by
        intro i
        rw [← hT]
        simp only [up_eq, up_ne, up_nf, Nat.reduceBEq, Int.reduceBEq, true_and, and_true, up_same]
        repeat' split
        all_goals first | rfl | (exfalso; omega)
      have u12 : T 7 12 = S 7 12 + 1 := by
        rw [← hT]
        simp only [up_eq, up_ne, up_nf, Nat.reduceBEq, Int.reduceBEq, true_and, and_true]
      have u54 : T 51 54 = S 7 12 + 1 := by
        rw [← hT]
        simp only [up_eq, up_ne, up_nf, Nat.reduceBEq, Int.reduceBEq, true_and, and_true]
      have u11 : T 7 11 = S 7 11 := by
        rw [← hT]
        simp only [up_eq, up_ne, up_nf, Nat.reduceBEq, Int.reduceBEq, true_and, and_true]
      have u71 : T 71 = S 71 := by rw [← hT]; rfl
      have u15 : T 15 = S 15 := by rw [← hT]; rfl
      have ul : T 1 2 = S 1 2 := by rw [← hT]; rfl
      have iM' : iMark T := by
        unfold iMark
        rw [u71, u15, ul, u11, u12, u54]
        refine ⟨fun r r1 r2 => ?_, rfl, by omega, ?_⟩
        · have h := iM.1 r r1 r2
          rw [u14, u72]
          split
          · omega
          · omega
        · have h := iM.2.2.2
          have s1 := zsum_upd (f := fun r => if 0 ≤ S 14 r then (1 : Int) else 0) (g := fun r => if r = a ∨ 0 ≤ S 14 r then 1 else 0) (n := (S 7 11).toNat) (a := a) q1.1 (by omega) (fun i _ _ z => by show (if i = a ∨ 0 ≤ S 14 i then (1 : Int) else 0) = if 0 ≤ S 14 i then 1 else 0; simp [z])
          have s2 := zsum_upd (f := fun r => if r = a ∨ 0 ≤ S 14 r then (1 : Int) else 0) (g := fun r => if r = b ∨ r = a ∨ 0 ≤ S 14 r then 1 else 0) (n := (S 7 11).toNat) (a := b) q2.1 (by omega) (fun i _ _ z => by show (if i = b ∨ i = a ∨ 0 ≤ S 14 i then (1 : Int) else 0) = if i = a ∨ 0 ≤ S 14 i then 1 else 0; simp [z])
          have s3 := zsum_upd (f := fun r => if r = b ∨ r = a ∨ 0 ≤ S 14 r then (1 : Int) else 0) (g := fun r => if 0 ≤ T 14 r then 1 else 0) (n := (S 7 11).toNat) (a := c) q3.1 (by omega) (fun i _ _ z => by
            show (if 0 ≤ T 14 i then (1 : Int) else 0) = if i = b ∨ i = a ∨ 0 ≤ S 14 i then 1 else 0
            rw [u14]
            by_cases f : i = a ∨ i = b
            · rw [if_pos (by omega), if_pos (by omega)]
            · rw [if_neg (c := i = a ∨ i = b ∨ i = c) (by omega)]
              by_cases g : 0 ≤ S 14 i
              · rw [if_pos g, if_pos (by omega)]
              · rw [if_neg g, if_neg (by omega)])
          have w1 : (if a = a ∨ 0 ≤ S 14 a then (1 : Int) else 0) = 1 := if_pos (Or.inl rfl)
          have w2 : (if 0 ≤ S 14 a then (1 : Int) else 0) = 0 := if_neg (by omega)
          have w3 : (if b = b ∨ b = a ∨ 0 ≤ S 14 b then (1 : Int) else 0) = 1 := if_pos (Or.inl rfl)
          have w4 : (if b = a ∨ 0 ≤ S 14 b then (1 : Int) else 0) = 0 := if_neg (by omega)
          have w5 : (if 0 ≤ T 14 c then (1 : Int) else 0) = 1 := by
            rw [u14, if_pos (Or.inr (Or.inr rfl))]
            exact if_pos iM.2.2.1
          have w6 : (if c = b ∨ c = a ∨ 0 ≤ S 14 c then (1 : Int) else 0) = 0 := if_neg (by omega)
          simp only [w1, w2, w3, w4, w5, w6, true_or, if_true] at s1 s2 s3
          rw [s3, s2, s1, ← h]
          omega
      rw [← hT] at iM' ⊢
      exact ⟨iL, iT, iW, iP, iR, iM', iA, iG, iC, iE, iK, iB⟩
    · refine zfin2 (r := -1) hI ?_ (W_M_X12_join ra rb rc hW) ?_
      · unfold M_X11_join
        rw [ec, zb_some, zif0 w, if_pos rfl]
      · have e1 := m1.2.2.2.1
        have e2 := m2.2.2.2.1
        have e3 := m3.2.2.2.1
        unfold M_X12_join
        rw [zP_zs]
        simp only [m_isRow, zb_some, up_eq, up_ne, up_nf, Nat.reduceBEq, Int.reduceBEq, true_and, and_true, iR.1.1, zif1 q1, zif1 q2, zif1 q3, if_neg n1, if_neg n2, if_neg n3, if_neg (show ¬ (1 : Int) = 0 by decide)]
        rw [zg_in (by omega), if_neg (by omega), zg_in (by omega), if_neg (by omega), zg_in (by omega), if_neg (by omega), z2, zb_some, z3, zb_some, z4, zb_some]
        repeat' split
        all_goals first | exact zP_ret.mpr ⟨rfl, rfl⟩ | (exfalso; omega)
  · refine zfin2 (r := -1) hI ?_ (W_M_X12_join ra rb rc hW) ?_
    · unfold M_X11_join
      have ec : M_X6_canTie a b c S = some (0, S) := by
        unfold M_X6_canTie M_X6_isTied
        simp only [e_has, zb_some, e_knotWith iR.c, zif10]
        by_cases p : (0 ≤ a ∧ a < S 7 11) ∧ (0 ≤ b ∧ b < S 7 11) ∧ 0 ≤ c ∧ c < S 7 11
        · rw [if_neg (by omega), if_neg (by omega), if_neg (by omega)]
          split
          · rfl
          · split
            · rfl
            · split
              · rfl
              · rw [if_pos p.1]
                by_cases s1 : S 14 a = -1
                · rw [if_pos s1, zb_some, if_pos rfl, e_knotWith iR.c, zb_some, if_pos p.2.1]
                  by_cases s2 : S 14 b = -1
                  · rw [if_pos s2, zb_some, if_pos rfl, e_knotWith iR.c, zb_some, if_pos p.2.2]
                    by_cases s3 : S 14 c = -1
                    · exact absurd ⟨p, ⟨by assumption, by assumption, by assumption⟩, s1, s2, s3⟩ q
                    · rw [if_neg s3, zb_some, if_neg (by decide)]
                  · rw [if_neg s2, zb_some, if_neg (by decide)]
                · rw [if_neg s1, zb_some, if_neg (by decide)]
        · by_cases p1 : 0 ≤ a ∧ a < S 7 11
          · rw [if_neg (by omega)]
            by_cases p2 : 0 ≤ b ∧ b < S 7 11
            · rw [if_neg (by omega), if_pos (by omega)]
            · rw [if_pos (by omega)]
          · rw [if_pos (by omega)]
      rw [ec, zb_some, if_pos rfl]
    · unfold M_X12_join
      rw [zP_zs]
      simp only [m_isRow, zb_some, up_eq, up_ne, up_nf, Nat.reduceBEq, Int.reduceBEq, true_and, and_true, iR.1.1, zif10]
      by_cases p : (0 ≤ a ∧ a < S 7 11) ∧ (0 ≤ b ∧ b < S 7 11) ∧ 0 ≤ c ∧ c < S 7 11
      · have m1 := (iM.1 a p.1.1 p.1.2).2.2.2
        have m2 := (iM.1 b p.2.1.1 p.2.1.2).2.2.2
        have m3 := (iM.1 c p.2.2.1 p.2.2.2).2.2.2
        rw [if_neg (by omega), if_neg (by omega), if_neg (by omega)]
        split
        · exact zP_ret.mpr ⟨rfl, rfl⟩
        · split
          · exact zP_ret.mpr ⟨rfl, rfl⟩
          · split
            · exact zP_ret.mpr ⟨rfl, rfl⟩
            · rw [zg_in (by omega)]
              split
              · exact zP_ret.mpr ⟨rfl, rfl⟩
              · rw [zg_in (by omega)]
                split
                · exact zP_ret.mpr ⟨rfl, rfl⟩
                · rw [zg_in (by omega)]
                  split
                  · exact zP_ret.mpr ⟨rfl, rfl⟩
                  · exact absurd ⟨p, ⟨by assumption, by assumption, by assumption⟩, by omega, by omega, by omega⟩ q
      · by_cases p1 : 0 ≤ a ∧ a < S 7 11
        · rw [if_neg (by omega)]
          by_cases p2 : 0 ≤ b ∧ b < S 7 11
          · rw [if_neg (by omega), if_pos (by omega)]
            exact zP_ret.mpr ⟨rfl, rfl⟩
          · rw [if_pos (by omega)]
            exact zP_ret.mpr ⟨rfl, rfl⟩
        · rw [if_pos (by omega)]
          exact zP_ret.mpr ⟨rfl, rfl⟩
end TI
