/-! a row, by both -/
section RY
variable {S T A B : HS}
theorem cRow_h : cRow (hyb S T) = cRow S := rfl
theorem mRow_h : mRow (hyb S T) = (T 51 27 = S 7 11 ∧ (∀ r : Int, 0 ≤ r → r < S 7 11 → T 69 r = S 10 r) ∧ (∀ r k : Int, 0 ≤ r → r < S 7 11 → 0 ≤ k → k < S 10 r → T 70 (192 * r + k) = cel S r k) ∧ (∀ c : Int, 0 ≤ c → c < 192 → (S 11 c = -1 ∧ T 68 c = -1) ∨ (0 ≤ S 11 c ∧ T 68 c = S 11 c / 200))) := rfl
/-- where the next row begins -/
def rwE (S : HS) (R : Int) : Int := if R = 0 then 0 else S 9 (R - 1) + S 10 (R - 1)
theorem row_of (h : cRow S) : ∀ (R : Nat) (q : Int), (R : Int) ≤ S 7 11 → 0 ≤ q → q < rwE S R → ∃ r k : Int, 0 ≤ r ∧ r < R ∧ 0 ≤ k ∧ k < S 10 r ∧ q = S 9 r + k := by
  intro R
  induction R with
  | zero =>
    intro q _ q0 q1
    unfold rwE at q1
    rw [if_pos (show ((0 : Nat) : Int) = 0 from rfl)] at q1
    omega
  | succ R ih =>
    intro q hR q0 q1
    unfold rwE at q1
    rw [if_neg (by omega), show ((R + 1 : Nat) : Int) - 1 = R by omega] at q1
    by_cases g : q < S 9 R
    · have lt : q < rwE S R := by
        unfold rwE
        by_cases z : (R : Int) = 0
        · have := h.1.2.2 (by omega)
          rw [z] at g
          omega
        · rw [if_neg z]
          have y := (h.2.1 ((R : Int) - 1) (by omega) (by omega)).2.2.2 (by omega)
          rw [show (R : Int) - 1 + 1 = R by omega] at y
          omega
      obtain ⟨r, k, x1, x2, x3, x4, x5⟩ := ih q (by omega) q0 lt
      exact ⟨r, k, x1, by omega, x3, x4, x5⟩
    · exact ⟨R, q - S 9 R, by omega, by omega, by omega, by omega, by omega⟩
theorem rwE_r (h : cRow S) : 0 ≤ rwE S (S 7 11) ∧ rwE S (S 7 11) ≤ 192 ∧ ∀ r : Int, 0 ≤ r → r < S 7 11 → S 9 r + S 10 r ≤ rwE S (S 7 11) := by
  have h0 := h.1
  have key : ∀ d : Nat, ∀ r : Int, 0 ≤ r → r + d + 1 = S 7 11 → S 9 r + S 10 r ≤ rwE S (S 7 11) := by
    intro d
    induction d with
    | zero =>
      intro r r0 r1
      unfold rwE
      rw [if_neg (by omega), show S 7 11 - 1 = r by omega]
      exact Int.le_refl _
    | succ d ih =>
      intro r r0 r1
      have a := ih (r + 1) (by omega) (by omega)
      have b := (h.2.1 r r0 (by omega)).2.2.2 (by omega)
      have c := h.2.1 (r + 1) (by omega) (by omega)
      omega
  refine ⟨?_, ?_, fun r r0 r1 => key (S 7 11 - r - 1).toNat r r0 (by omega)⟩
  · unfold rwE
    by_cases z : S 7 11 = 0
    · rw [if_pos z]
      exact Int.le_refl _
    · rw [if_neg z]
      have := h.2.1 (S 7 11 - 1) (by omega) (by omega)
      omega
  · unfold rwE
    by_cases z : S 7 11 = 0
    · rw [if_pos z]
      decide
    · rw [if_neg z]
      have := h.2.1 (S 7 11 - 1) (by omega) (by omega)
      omega
/-- there is room for a row -/
theorem rwE_n (h : cRow S) {n : Int} (n0 : 0 ≤ n) (hok : ∀ i : Int, 0 ≤ i → i < n → rwO S T i) : rwE S (S 7 11) + n ≤ 192 := by
  have h0 := h.1
  have e0 := rwE_r h
  have old : ∀ q : Int, 0 ≤ q → q < rwE S (S 7 11) → ∃ r k : Int, 0 ≤ r ∧ r < S 7 11 ∧ 0 ≤ k ∧ k < S 10 r ∧ q = S 9 r + k ∧ 0 ≤ S 8 q ∧ S 8 q < 192 ∧ S 11 (S 8 q) = 200 * r + k := by
    intro q q0 q1
    have eR : ((S 7 11).toNat : Int) = S 7 11 := by omega
    obtain ⟨r, k, x1, x2, x3, x4, x5⟩ := row_of h (S 7 11).toNat q (by omega) q0 (by rw [eR]; exact q1)
    rw [eR] at x2
    have y := h.2.2.1 r k x1 x2 x3 x4
    have e : cel S r k = S 8 q := by
      unfold cel
      rw [x5]
    rw [e] at y
    exact ⟨r, k, x1, x2, x3, x4, x5, y.1, y.2.1, y.2.2.1⟩
  have z := pig (f := fun i => if i < rwE S (S 7 11) then S 8 i else rwC T (i - rwE S (S 7 11))) (n := (rwE S (S 7 11) + n).toNat) (fun i i0 i1 => by
    show 0 ≤ (if i < rwE S (S 7 11) then S 8 i else rwC T (i - rwE S (S 7 11))) ∧ (if i < rwE S (S 7 11) then S 8 i else rwC T (i - rwE S (S 7 11))) < 192
    by_cases g : i < rwE S (S 7 11)
    · rw [if_pos g]
      obtain ⟨r, k, x1, x2, x3, x4, x5, x6, x7, x8⟩ := old i i0 g
      exact ⟨x6, x7⟩
    · rw [if_neg g]
      exact (hok _ (by omega) (by omega)).c) (fun i j i0 ij j1 => by
    show (if i < rwE S (S 7 11) then S 8 i else rwC T (i - rwE S (S 7 11))) ≠ (if j < rwE S (S 7 11) then S 8 j else rwC T (j - rwE S (S 7 11)))
    by_cases g : i < rwE S (S 7 11)
    · obtain ⟨r, k, x1, x2, x3, x4, x5, x6, x7, x8⟩ := old i i0 g
      have y := h.2.1 r x1 x2
      rw [if_pos g]
      by_cases g2 : j < rwE S (S 7 11)
      · obtain ⟨r', k', z1, z2, z3, z4, z5, z6, z7, z8⟩ := old j (by omega) g2
        have y' := h.2.1 r' z1 z2
        rw [if_pos g2]
        intro q
        rw [q] at x8
        have er : r = r' := by omega
        subst er
        omega
      · rw [if_neg g2]
        intro q
        have w := (hok (j - rwE S (S 7 11)) (by omega) (by omega)).2.2.1
        rw [← q] at w
        omega
    · rw [if_neg g, if_neg (by omega)]
      exact (hok _ (by omega) (by omega)).2.2.2 _ (by omega) (by omega))
  omega
/-- S with a row more -/
def rwN (S T C : HS) (n : Int) : Prop := C 7 11 = S 7 11 + 1 ∧ (∀ r : Int, C 9 r = if r = S 7 11 then rwE S (S 7 11) else S 9 r) ∧ (∀ r : Int, C 10 r = if r = S 7 11 then n else S 10 r) ∧ (∀ r : Int, C 13 r = if r = S 7 11 then 0 else S 13 r) ∧ (∀ r : Int, C 14 r = if r = S 7 11 then -1 else S 14 r) ∧ (∀ r : Int, C 15 r = if r = S 7 11 then -1 else S 15 r) ∧ (∀ k : Int, 0 ≤ k → k < n → C 8 (rwE S (S 7 11) + k) = rwC T k) ∧ (∀ q : Int, q < rwE S (S 7 11) → C 8 q = S 8 q) ∧ (∀ k : Int, 0 ≤ k → k < n → C 11 (rwC T k) = 200 * S 7 11 + k) ∧ (∀ c : Int, (¬ ∃ k : Int, 0 ≤ k ∧ k < n ∧ rwC T k = c) → C 11 c = S 11 c) ∧ zFr [8, 9, 10, 11, 13, 14, 15, 16] [(7, 11)] S C
theorem e_put6 (h : cRow S) (hC : wkD S T) (h24 : S 7 11 < 24) (n0 : 0 ≤ S 46 7) (hok : ∀ i : Int, 0 ≤ i → i < S 46 7 → rwO S T i) (s : rSame [16] S A) : zP (M_X6_put A) (fun r C => r = 0 ∧ rwN S T C (S 46 7)) := by
  have h0 := h.1
  have e0 := rwE_r h
  have en := rwE_n h n0 hok
  have a7 : A 7 = S 7 := s 7 (by decide)
  have a9 : A 9 = S 9 := s 9 (by decide)
  have a10 : A 10 = S 10 := s 10 (by decide)
  have n413 := hC.1
  have j44 : ∀ t0 : Int, t0 = rwE S (S 7 11) → zP (J_X6_put_44 t0 A) (fun r C => r = 0 ∧ rwN S T C (S 46 7)) := by
    intro t0 ht
    subst ht
    unfold J_X6_put_44
    have q1 : ∀ v : Int, up A 9 (S 7 11) v 7 11 = S 7 11 := fun v => by rw [up_cell _ (by decide), a7]
    rw [a7, zg_in (by omega), zs_in, q1, zg_in (by omega)]
    have q2 : up A 9 (S 7 11) (rwE S (S 7 11)) 46 7 = S 46 7 := by rw [up_cell _ (by decide), s 46 (by decide)]
    rw [q2, zs_in]
    generalize hA2 : up (up A 9 (S 7 11) (rwE S (S 7 11))) 10 (S 7 11) (S 46 7) = A2
    have A27 : A2 7 11 = S 7 11 := by rw [← hA2, up_cell _ (by decide), q1]
    rw [A27, zg_in (by omega), zs_in]
    have q3 : up A2 13 (S 7 11) 0 7 11 = S 7 11 := by rw [up_cell _ (by decide), A27]
    rw [q3, zg_in (by omega), zs_in]
    have q4 : up (up A2 13 (S 7 11) 0) 14 (S 7 11) (-1) 7 11 = S 7 11 := by rw [up_cell _ (by decide), q3]
    rw [q4, zg_in (by omega), zs_in]
    generalize hA3 : up (up (up A2 13 (S 7 11) 0) 14 (S 7 11) (-1)) 15 (S 7 11) (-1) = A3
    have b7 : A3 7 11 = S 7 11 := by rw [← hA3, up_cell _ (by decide), q4]
    have b9 : ∀ r : Int, A3 9 r = if r = S 7 11 then rwE S (S 7 11) else S 9 r := fun r => by
      rw [← hA3, up_cell _ (by decide), up_cell _ (by decide), up_cell _ (by decide), ← hA2, up_cell _ (by decide), up_same, a9]
    have b10 : ∀ r : Int, A3 10 r = if r = S 7 11 then S 46 7 else S 10 r := fun r => by
      rw [← hA3, up_cell _ (by decide), up_cell _ (by decide), up_cell _ (by decide), ← hA2, up_same, up_cell _ (by decide), a10]
    have b13 : ∀ r : Int, A3 13 r = if r = S 7 11 then 0 else S 13 r := fun r => by
      rw [← hA3, up_cell _ (by decide), up_cell _ (by decide), up_same, ← hA2, up_cell _ (by decide), up_cell _ (by decide), s 13 (by decide)]
    have b14 : ∀ r : Int, A3 14 r = if r = S 7 11 then -1 else S 14 r := fun r => by
      rw [← hA3, up_cell _ (by decide), up_same, up_cell _ (by decide), ← hA2, up_cell _ (by decide), up_cell _ (by decide), s 14 (by decide)]
    have b15 : ∀ r : Int, A3 15 r = if r = S 7 11 then -1 else S 15 r := fun r => by
      rw [← hA3, up_same, up_cell _ (by decide), up_cell _ (by decide), ← hA2, up_cell _ (by decide), up_cell _ (by decide), s 15 (by decide)]
    have bk : rSame [9, 10, 13, 14, 15, 16] S A3 := by
      rw [← hA3, ← hA2]
      exact ((((((s.mono (by decide)).up (by decide)).up (by decide)).up (by decide)).up (by decide)).up (by decide))
    refine zloop (b := S 46 7) (fun v C => (0 ≤ v ∧ v ≤ S 46 7) ∧ rSame [8, 11] A3 C ∧ (∀ k : Int, 0 ≤ k → k < v → C 8 (rwE S (S 7 11) + k) = rwC T k) ∧ (∀ q : Int, q < rwE S (S 7 11) → C 8 q = S 8 q) ∧ (∀ k : Int, 0 ≤ k → k < v → C 11 (rwC T k) = 200 * S 7 11 + k) ∧ (∀ c : Int, (¬ ∃ k : Int, 0 ≤ k ∧ k < v ∧ rwC T k = c) → C 11 c = S 11 c)) (fun n v C hJ hv => ?_) (fun n v C hJ hv ih => ?_) _ _ _ ⟨⟨Int.le_refl _, n0⟩, rSame.rf, fun k k0 k1 => by omega, fun q _ => by rw [bk 8 (by decide)], fun k k0 k1 => by omega, fun c _ => by rw [bk 11 (by decide)]⟩ (zbig (by omega))
    · obtain ⟨a, b, c, d, e, f⟩ := hJ
      have ev : v = S 46 7 := by omega
      rw [ev] at c e f
      have c46 : C 46 7 = S 46 7 := by rw [b 46 (by decide), bk 46 (by decide)]
      have c7 : C 7 11 = S 7 11 := by rw [b 7 (by decide), b7]
      rw [L_X6_put_100.eq_2, c46, if_pos hv, c7, zl_in (by omega), zs_in, zP_ret]
      refine ⟨rfl, up_eq .., fun r => ?_, fun r => ?_, fun r => ?_, fun r => ?_, fun r => ?_, fun k k0 k1 => ?_, fun q hq => ?_, fun k k0 k1 => ?_, fun c' hc => ?_, zfr_upO (zFr.trans (zFr.mono (by decide) (by decide) bk.fr) (zFr.mono (by decide) (by decide) b.fr)) (by decide)⟩
      · rw [up_cell _ (by decide), b 9 (by decide), b9]
      · rw [up_cell _ (by decide), b 10 (by decide), b10]
      · rw [up_cell _ (by decide), b 13 (by decide), b13]
      · rw [up_cell _ (by decide), b 14 (by decide), b14]
      · rw [up_cell _ (by decide), b 15 (by decide), b15]
      · rw [up_cell _ (by decide)]
        exact c k k0 k1
      · rw [up_cell _ (by decide)]
        exact d q hq
      · rw [up_cell _ (by decide)]
        exact e k k0 k1
      · rw [up_cell _ (by decide)]
        exact f c' hc
    · obtain ⟨a, b, c, d, e, f⟩ := hJ
      have c46 : C 46 = S 46 := (b 46 (by decide)).trans (bk 46 (by decide))
      have c47 : C 47 = S 47 := (b 47 (by decide)).trans (bk 47 (by decide))
      have c7 : C 7 11 = S 7 11 := by rw [b 7 (by decide), b7]
      have cr := (hok v a.1 hv).c
      have p := (hC.2 v a.1 hv).2.1
      have p' : S 47 v = rwC T v := p
      have ds := (hok v a.1 hv).2.2.2
      rw [L_X6_put_100.eq_2, c46, if_neg (by omega), e_pt (by rw [c46]; omega), zb_some, c47, p', e_cell, zb_some, zif1 cr, if_neg (by decide), zl_in (by omega), e_cell, zb_some, zif1 (by omega), if_neg (by decide), zg_in (by omega), zs_in]
      have u7 : up C 8 (rwE S (S 7 11) + v) (rwC T v) 7 11 = S 7 11 := by rw [up_cell _ (by decide), c7]
      unfold J_X6_put_159
      rw [u7, zl_in (by omega), zg_in cr, zs_in, zl_in (by omega)]
      refine ih _ ⟨by omega, (b.up (by decide)).up (by decide), fun k k0 k1 => ?_, fun q hq => ?_, fun k k0 k1 => ?_, fun c' hc => ?_⟩
      · rw [up_cell _ (by decide), up_same]
        by_cases y : k = v
        · rw [if_pos (by omega), y]
        · rw [if_neg (by omega)]
          exact c k k0 (by omega)
      · rw [up_cell _ (by decide), up_same, if_neg (by omega)]
        exact d q hq
      · rw [up_same]
        by_cases y : k = v
        · rw [y, if_pos rfl]
        · rw [if_neg (ds k k0 (by omega)), up_cell _ (by decide)]
          exact e k k0 (by omega)
      · rw [up_same, if_neg (fun z => hc ⟨v, a.1, by omega, z.symm⟩), up_cell _ (by decide)]
        exact f c' (fun ⟨k, k0, k1, k2⟩ => hc ⟨k, k0, by omega, k2⟩)
  unfold M_X6_put
  rw [a7, if_pos h24]
  by_cases g : S 7 11 = 0
  · rw [if_pos g]
    refine j44 0 ?_
    unfold rwE
    rw [if_pos g]
  · have hl := h.2.1 (S 7 11 - 1) (by omega) (by omega)
    have y : rwE S (S 7 11) = S 9 (S 7 11 - 1) + S 10 (S 7 11 - 1) := by
      unfold rwE
      rw [if_neg g]
    rw [if_neg g, zg_in (by omega), zg_in (by omega), a9, a10, zl_in (by omega)]
    exact j44 _ y.symm
/-- a row more stands in both -/
theorem row_new {C D : HS} {n : Int} (h : cRow S) (hH : rwH S T) (hm : mRow (hyb S T)) (h24 : S 7 11 < 24) (n2 : 2 ≤ n) (hn : T 51 19 = n) (hok : ∀ i : Int, 0 ≤ i → i < n → rwO S T i) (hN : rwN S T C n) (hM : rwM T D n) : iRow (hyb C (up (up (up (up D 69 (T 51 27) (T 51 19)) 71 (T 51 27) (-1)) 72 (T 51 27) (-1)) 51 27 (T 51 27 + 1))) := by
  obtain ⟨c7, c9, c10, c13, c14, c15, c8, c8', c11, c11', fC⟩ := hN
  obtain ⟨d1, d2, d3⟩ := hM
  rw [mRow_h] at hm
  obtain ⟨m1, m2, m3, m4⟩ := hm
  have h0 := h.1
  have e0 := rwE_r h
  have en := rwE_n h (by omega) hok
  have C2 : C 2 = S 2 := fC.cell 2 (by decide) (by decide)
  have celO : ∀ r k : Int, 0 ≤ r → r < S 7 11 → 0 ≤ k → k < S 10 r → cel C r k = cel S r k := by
    intro r k r0 r1 k0 k1
    have y := e0.2.2 r r0 r1
    unfold cel
    rw [c9, if_neg (by omega), c8' _ (by omega)]
  have celN : ∀ k : Int, 0 ≤ k → k < n → cel C (S 7 11) k = rwC T k := by
    intro k k0 k1
    unfold cel
    rw [c9, if_pos rfl, c8 k k0 k1]
  have notn : ∀ r k : Int, 0 ≤ r → r < S 7 11 → 0 ≤ k → k < S 10 r → ¬ ∃ i : Int, 0 ≤ i ∧ i < n ∧ rwC T i = cel S r k := by
    rintro r k r0 r1 k0 k1 ⟨i, i0, i1, i2⟩
    have a := (hok i i0 i1).2.2.1
    have b := h.2.2.1 r k r0 r1 k0 k1
    rw [i2] at a
    omega
  refine iRow.mk ?_ ?_
  · rw [cRow_h]
    refine ⟨⟨by omega, by omega, fun _ => ?_⟩, fun r r0 r1 => ?_, fun r k r0 r1 k0 k1 => ?_, fun c q0 q1 => ?_⟩
    · rw [c9]
      by_cases z : S 7 11 = 0
      · rw [if_pos z.symm]
        unfold rwE
        rw [if_pos z]
      · rw [if_neg (fun q => z q.symm)]
        exact h0.2.2 (by omega)
    · rw [c7] at r1 ⊢
      rw [c10, c9]
      by_cases z : r = S 7 11
      · rw [if_pos z, if_pos z]
        exact ⟨n2, e0.1, en, fun q => by omega⟩
      · have y := h.2.1 r r0 (by omega)
        rw [if_neg z, if_neg z]
        refine ⟨y.1, y.2.1, y.2.2.1, fun q => ?_⟩
        rw [c9]
        by_cases w : r + 1 = S 7 11
        · rw [if_pos w]
          unfold rwE
          rw [if_neg (by omega), show S 7 11 - 1 = r by omega]
        · rw [if_neg w]
          exact y.2.2.2 (by omega)
    · rw [c7] at r1
      rw [c10] at k1
      rw [C2]
      by_cases z : r = S 7 11
      · rw [if_pos z] at k1
        subst z
        have y := (hok k k0 k1).c
        have y2 := (hok k k0 k1).1.2
        rw [celN k k0 k1, c11 k k0 k1]
        have w := (hH.1 _ y.1 y.2).2
        exact ⟨y.1, y.2, rfl, by omega⟩
      · rw [if_neg z] at k1
        have y := h.2.2.1 r k r0 (by omega) k0 k1
        rw [celO r k r0 (by omega) k0 k1, c11' _ (notn r k r0 (by omega) k0 k1)]
        exact y
    · rw [c7]
      by_cases g : ∃ k : Int, 0 ≤ k ∧ k < n ∧ rwC T k = c
      · obtain ⟨k, k0, k1, rfl⟩ := g
        right
        exact ⟨S 7 11, k, by omega, by omega, k0, by rw [c10, if_pos rfl]; exact k1, c11 k k0 k1, celN k k0 k1⟩
      · rw [c11' c g]
        rcases h.2.2.2 c q0 q1 with y | ⟨r, k, x1, x2, x3, x4, x5, x6⟩
        · exact Or.inl y
        · exact Or.inr ⟨r, k, x1, by omega, x3, by rw [c10, if_neg (by omega)]; exact x4, x5, by rw [celO r k x1 x2 x3 x4]; exact x6⟩
  · rw [mRow_h]
    generalize hU : up (up (up (up D 69 (T 51 27) (T 51 19)) 71 (T 51 27) (-1)) 72 (T 51 27) (-1)) 51 27 (T 51 27 + 1) = U
    have u27 : U 51 27 = T 51 27 + 1 := by rw [← hU, up_eq]
    have u69 : ∀ r : Int, U 69 r = if r = T 51 27 then T 51 19 else T 69 r := fun r => by
      rw [← hU, up_cell _ (by decide), up_cell _ (by decide), up_cell _ (by decide), up_same, d1 69 (by decide)]
    have u70 : ∀ q : Int, U 70 q = D 70 q := fun q => by
      rw [← hU, up_cell _ (by decide), up_cell _ (by decide), up_cell _ (by decide), up_cell _ (by decide)]
    have u68 : ∀ q : Int, U 68 q = D 68 q := fun q => by
      rw [← hU, up_cell _ (by decide), up_cell _ (by decide), up_cell _ (by decide), up_cell _ (by decide)]
    refine ⟨by omega, fun r r0 r1 => ?_, fun r k r0 r1 k0 k1 => ?_, fun c q0 q1 => ?_⟩
    · rw [c7] at r1
      rw [u69, c10, m1]
      by_cases z : r = S 7 11
      · rw [if_pos z, if_pos z, hn]
      · rw [if_neg z, if_neg z]
        exact m2 r r0 (by omega)
    · rw [c7] at r1
      rw [c10] at k1
      rw [u70]
      by_cases z : r = S 7 11
      · rw [if_pos z] at k1
        subst z
        rw [celN k k0 k1, (d3 _).1 (by omega) (by omega), m1, show 192 * S 7 11 + k - 192 * S 7 11 = k by omega]
      · rw [if_neg z] at k1
        have y := h.2.1 r r0 (by omega)
        rw [celO r k r0 (by omega) k0 k1, (d3 _).2 (by omega)]
        exact m3 r k r0 (by omega) k0 k1
    · rw [u68]
      by_cases g : ∃ k : Int, 0 ≤ k ∧ k < n ∧ rwC T k = c
      · rw [(d2 c q0 q1).1 g]
        obtain ⟨k, k0, k1, rfl⟩ := g
        rw [c11 k k0 k1]
        right
        omega
      · rw [(d2 c q0 q1).2 g, c11' c g]
        exact m4 c q0 q1
theorem rwH_of (hP : rHP (hyb S T)) (hR : iRow (hyb S T)) : rwH S T := by
  refine ⟨fun c c0 c1 => ?_, fun c c0 c1 => ?_, sdR_of hP⟩
  · have z := hP.1 c c0 c1
    exact ⟨z.1, z.2.1⟩
  · have z := (mRow_h ▸ hR.m : _ ∧ _).2.2.2 c c0 c1
    rcases z with z | z
    · exact Or.inl z
    · right
      omega
theorem row_on {vx vy : Int} (hP : iPart (hyb S T)) (hI : iRow (hyb S T)) (hR : wkR 16 12 S T vx vy) (hN : T 51 19 ≤ 4001) : ∃ (rc : Int) (A : HS) (rm : Int) (B : HS), M_X6_whyNot S = some (rc, A) ∧ M_X12_rowing T = some (rm, B) ∧ ((rc = -1 ∧ rm = 0 ∧ ∃ (A' : HS) (n : Int), M_X6_put A = some (0, A') ∧ S 7 11 < 24 ∧ 2 ≤ n ∧ rwE S (S 7 11) + n ≤ 192 ∧ rwN S T A' n ∧ (∀ k : Int, 0 ≤ k → k < n → (0 ≤ rwC T k ∧ rwC T k < 192) ∧ S 11 (rwC T k) = -1) ∧ iRow (hyb A' B) ∧ (∀ r : Int, B 71 r = if r = S 7 11 then -1 else T 71 r) ∧ (∀ r : Int, B 72 r = if r = S 7 11 then -1 else T 72 r) ∧ zFr [68, 69, 70, 71, 72] [(51, 27)] T B) ∨ ((1 ≤ rm ∧ rm ≤ 9) ∧ rc = rm ∧ rSame [16] S A ∧ rSame [68, 70] T B ∧ iRow (hyb A B))) := by
  have hH := rwH_of hP.1 hI
  have h : cRow S := hI.c
  have hm := hI.m
  have hm' := hm
  rw [mRow_h] at hm'
  obtain ⟨m1, m2, m3, m4⟩ := hm'
  have h0 := h.1
  obtain ⟨⟨n1, e2, e3⟩, -, hc, hin, ⟨h60, h7⟩, hs⟩ := hR
  have hC : wkD S T := ⟨by omega, fun j j0 j1 => ⟨hin j j0 (by omega), hs j j0 j1⟩⟩
  have keep : ∀ A B : HS, rSame [16] S A → rSame [68, 70] T B → (∀ c : Int, 0 ≤ c → c < 192 → B 68 c = T 68 c) → (∀ q : Int, q < 192 * T 51 27 → B 70 q = T 70 q) → iRow (hyb A B) := by
    intro A B sA sB b68 b70
    have eA : ∀ k : Nat, k ∉ [16] → A k = S k := sA
    refine iRow.mk ?_ ?_
    · rw [cRow_h]
      exact cRow_fr h (eA 2 (by decide)) (eA 7 (by decide)) (eA 8 (by decide)) (eA 9 (by decide)) (eA 10 (by decide)) (eA 11 (by decide))
    · rw [mRow_h]
      have ec : cel A = cel S := by
        funext x y
        unfold cel
        rw [eA 8 (by decide), eA 9 (by decide)]
      rw [eA 7 (by decide), eA 10 (by decide), eA 11 (by decide), sB 51 (by decide), sB 69 (by decide), ec]
      refine ⟨m1, m2, fun r k r0 r1 k0 k1 => ?_, fun c c0 c1 => ?_⟩
      · have y := h.2.1 r r0 r1
        rw [b70 _ (by omega)]
        exact m3 r k r0 r1 k0 k1
      · rw [b68 c c0 c1]
        exact m4 c c0 c1
  by_cases h24 : S 7 11 < 24
  · obtain ⟨rc, A, eA, sA, hA⟩ := e_whyRow hC (by omega) h24
    obtain ⟨rm, B, eB, hB⟩ := m_rowing ⟨n1, hN⟩ (by omega) hH
    refine ⟨rc, A, rm, B, eA, eB, ?_⟩
    have bd : ∀ {j r : Int}, rwR S T j r → 1 ≤ r ∧ r ≤ 9 := by
      intro j r hr
      rcases hr with ⟨-, z⟩ | ⟨-, -, z⟩ | ⟨-, -, -, z⟩ <;> omega
    rcases hB with ⟨⟨j, hj⟩, b1, b2, b3⟩ | ⟨hok, n192, hB⟩
    · right
      have e : rc = rm := by
        rcases hA with ⟨j', hj'⟩ | ⟨hok, hr⟩
        · exact (rwF.one hj' hj).2
        · -- the class has looked at all that it has written down
          have nj : S 46 7 ≤ j := by
            by_cases g : j < S 46 7
            · exact absurd (hok j hj.1 g) hj.2.2.2.no
            · omega
          have n2 := rwO_n (by omega) hok
          rcases hc with ⟨c8, c6, -, -⟩ | ⟨c8, c6, c9⟩
          · have := hj.2.1
            omega
          · rw [if_neg (by omega)] at hr
            have ej : j = S 46 6 := by
              by_cases g : S 46 6 < j
              · have y := (hj.2.2.1 (S 46 6) (by omega) g).1.1
                exact absurd y c9
              · omega
            rcases hj.2.2.2 with ⟨-, z⟩ | ⟨z, -⟩ | ⟨z, -⟩
            · omega
            · rw [ej] at z
              exact absurd z.1 c9
            · rw [ej] at z
              exact absurd z.1 c9
      exact ⟨bd hj.2.2.2, e, sA, b1, keep A B sA b1 b2 b3⟩
    · -- all of it may stand
      have c8 : S 46 8 = 0 ∧ S 46 6 = T 51 19 := by
        rcases hc with ⟨c8, c6, -, -⟩ | ⟨c8, c6, c9⟩
        · exact ⟨c8, c6⟩
        · exact absurd (hok (S 46 6) (by omega) c6).1.1 c9
      have e7 : S 46 7 = T 51 19 := by omega
      have hr : rc = (if S 46 6 = 1 then 8 else -1) := by
        rcases hA with ⟨j', hj'⟩ | ⟨-, hr⟩
        · exact absurd (hok j' hj'.1 (by have := hj'.2.1; omega)) hj'.2.2.2.no
        · rw [if_pos c8.1] at hr
          exact hr
      rcases hB with ⟨g, rfl, b1, b2, b3⟩ | ⟨g, rfl, D, hM, rfl⟩
      · right
        rw [if_pos (by omega)] at hr
        exact ⟨by decide, hr, sA, b1, keep A B sA b1 b2 b3⟩
      · left
        rw [if_neg (by omega)] at hr
        rw [← e7] at hok hM
        obtain ⟨rp, A', eA', rfl, hN'⟩ := e_put6 (A := A) h hC h24 (by omega) hok sA
        have en := rwE_n h (by omega) hok
        refine ⟨hr, rfl, A', S 46 7, eA', h24, by omega, en, hN', fun k k0 k1 => ⟨(hok k k0 k1).c, (hok k k0 k1).2.2.1⟩, row_new h hH hm h24 (by omega) e7.symm hok hN' hM, fun r => ?_, fun r => ?_, ?_⟩
        · rw [up_cell _ (by decide), up_cell _ (by decide), up_same, up_cell _ (by decide), hM.1 71 (by decide), m1]
        · rw [up_cell _ (by decide), up_same, up_cell _ (by decide), up_cell _ (by decide), hM.1 72 (by decide), m1]
        · exact zfr_upO (zfr_up (zfr_up (zfr_up (zFr.mono (by decide) (by decide) hM.1.fr) (by decide)) (by decide)) (by decide)) (by decide)
  · have ec : M_X6_whyNot S = some (9, S) := by
      unfold M_X6_whyNot
      rw [if_neg h24]
    have em : M_X12_rowing T = some (9, T) := by
      unfold M_X12_rowing
      rw [if_pos (by omega)]
    exact ⟨9, S, 9, T, ec, em, Or.inr ⟨by decide, rfl, rSame.rf, rSame.rf, hI⟩⟩
end RY
