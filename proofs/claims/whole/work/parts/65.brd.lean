/-! braids: the class weighs -/
def gBr (ce ow ad l m r : Int → Int) (n : Int) : Prop := (0 < n → l (ce 0) = (ow (ce 0) + 2) / 3 + ad (ce 0) ∧ m (ce 0) = (ow (ce 0) + 1) / 3 ∧ r (ce 0) = ow (ce 0) / 3) ∧ ∀ k : Int, 1 ≤ k → k < n → (k % 2 = 1 → l (ce k) = m (ce (k - 1)) ∧ m (ce k) = l (ce (k - 1)) + ow (ce k) + ad (ce k) ∧ r (ce k) = r (ce (k - 1))) ∧ (k % 2 = 0 → l (ce k) = l (ce (k - 1)) ∧ m (ce k) = r (ce (k - 1)) + ow (ce k) + ad (ce k) ∧ r (ce k) = m (ce (k - 1)))
def gBo (ce ow ad : Int → Int) (n : Int) : Prop := ∀ k : Int, 0 ≤ k → k < n → (0 ≤ ow (ce k) ∧ ow (ce k) ≤ 19008) ∧ 0 ≤ ad (ce k) ∧ ad (ce k) ≤ 5940
section B0
variable {ce ow ad l m r l' m' r' : Int → Int} {n : Int}
theorem gBr.congr (h : gBr ce ow ad l m r n) (e : ∀ k : Int, 0 ≤ k → k < n → l' (ce k) = l (ce k) ∧ m' (ce k) = m (ce k) ∧ r' (ce k) = r (ce k)) : gBr ce ow ad l' m' r' n := by
  refine ⟨fun h0 => ?_, fun k k1 kn => ?_⟩
  · have := e 0 (by omega) h0
    rw [this.1, this.2.1, this.2.2]
    exact h.1 h0
  · have a := e k (by omega) kn
    have b := e (k - 1) (by omega) (by omega)
    rw [a.1, a.2.1, a.2.2, b.1, b.2.1, b.2.2]
    exact h.2 k k1 kn
theorem gBr.cut {n' : Int} (h : gBr ce ow ad l m r n) (hn : n' ≤ n) : gBr ce ow ad l m r n' := ⟨fun h0 => h.1 (by omega), fun k k1 kn => h.2 k k1 (by omega)⟩
theorem gBr.push (h : gBr ce ow ad l m r n) (hn : 1 ≤ n) (e : (n % 2 = 1 → l (ce n) = m (ce (n - 1)) ∧ m (ce n) = l (ce (n - 1)) + ow (ce n) + ad (ce n) ∧ r (ce n) = r (ce (n - 1))) ∧ (n % 2 = 0 → l (ce n) = l (ce (n - 1)) ∧ m (ce n) = r (ce (n - 1)) + ow (ce n) + ad (ce n) ∧ r (ce n) = m (ce (n - 1)))) : gBr ce ow ad l m r (n + 1) := by
  refine ⟨fun _ => h.1 (by omega), fun k k1 kn => ?_⟩
  by_cases g : k = n
  · subst g
    exact e
  · exact h.2 k k1 (by omega)
theorem gBr.bd (h : gBr ce ow ad l m r n) (hb : gBo ce ow ad n) (k : Nat) (hk : (k : Int) < n) : (0 ≤ l (ce k) ∧ l (ce k) ≤ 25000 * (k + 1)) ∧ (0 ≤ m (ce k) ∧ m (ce k) ≤ 25000 * (k + 1)) ∧ 0 ≤ r (ce k) ∧ r (ce k) ≤ 25000 * (k + 1) := by
  induction k with
  | zero =>
    have a := h.1 (by omega)
    have b := hb 0 (by omega) (by omega)
    show (0 ≤ l (ce 0) ∧ l (ce 0) ≤ 25000 * (0 + 1)) ∧ (0 ≤ m (ce 0) ∧ m (ce 0) ≤ 25000 * (0 + 1)) ∧ 0 ≤ r (ce 0) ∧ r (ce 0) ≤ 25000 * (0 + 1)
    omega
  | succ k ih =>
    have i := ih (by omega)
    have a := h.2 (k + 1 : Nat) (by omega) hk
    have b := hb (k + 1 : Nat) (by omega) hk
    rw [show ((k + 1 : Nat) : Int) - 1 = (k : Int) by omega] at a
    by_cases g : ((k + 1 : Nat) : Int) % 2 = 1
    · have := a.1 g
      omega
    · have := a.2 (by omega)
      omega
theorem gBr.bd' (h : gBr ce ow ad l m r n) (hb : gBo ce ow ad n) {k : Int} (h0 : 0 ≤ k) (hk : k < n) : (0 ≤ l (ce k) ∧ l (ce k) ≤ 25000 * (k + 1)) ∧ (0 ≤ m (ce k) ∧ m (ce k) ≤ 25000 * (k + 1)) ∧ 0 ≤ r (ce k) ∧ r (ce k) ≤ 25000 * (k + 1) := by
  obtain ⟨j, rfl⟩ := Int.eq_ofNat_of_zero_le h0
  exact h.bd hb j hk
end B0
section B1
variable {S : HS}
theorem e_third {v j : Int} (hv : 0 ≤ v ∧ v ≤ 20000) (hj : 0 ≤ j ∧ j ≤ 2) : M_X0_thirdOf v j S = some ((v + 2 - j) / 3, S) := by
  unfold M_X0_thirdOf
  rw [zl_in (by omega), zg_in (by omega), zl_in (by omega)]
theorem e_keepW {c x y z : Int} (h0 : 0 ≤ c) (h1 : c < 192) : M_X0_keepWeights c x y z S = some (0, up (up (up S 29 c x) 30 c y) 31 c z) := by
  unfold M_X0_keepWeights
  rw [e_cell, zb_some, zif1 ⟨h0, h1⟩, if_neg (by decide), zg_in ⟨h0, h1⟩, zs_in, zg_in ⟨h0, h1⟩, zs_in, zg_in ⟨h0, h1⟩, zs_in]
theorem e_weigh {q : Int} (hR : cRow S) (q0 : 0 ≤ q) (q1 : q < S 7 11) (hb : gBo (cel S q) (S 21) (S 12) (S 10 q)) : zP (M_X0_weigh q S) (fun _ T => rSame [29, 30, 31] S T ∧ gBr (cel S q) (S 21) (S 12) (T 29) (T 30) (T 31) (S 10 q) ∧ ∀ c : Int, (∀ k : Int, 0 ≤ k → k < S 10 q → c ≠ cel S q k) → T 29 c = S 29 c ∧ T 30 c = S 30 c ∧ T 31 c = S 31 c) := by
  have hq := hR.2.1 q q0 q1
  unfold M_X0_weigh
  refine zloopM (F := fun n (x : Int × Int × Int × Int × HS) => L_X0_weigh_10 q n x.1 x.2.1 x.2.2.1 x.2.2.2.1 x.2.2.2.2) (fun x => (0 ≤ x.2.2.2.1 ∧ x.2.2.2.1 ≤ S 10 q) ∧ rSame [29, 30, 31] S x.2.2.2.2 ∧ gBr (cel S q) (S 21) (S 12) (x.2.2.2.2 29) (x.2.2.2.2 30) (x.2.2.2.2 31) x.2.2.2.1 ∧ (∀ c : Int, (∀ k : Int, 0 ≤ k → k < S 10 q → c ≠ cel S q k) → x.2.2.2.2 29 c = S 29 c ∧ x.2.2.2.2 30 c = S 30 c ∧ x.2.2.2.2 31 c = S 31 c) ∧ (1 ≤ x.2.2.2.1 → x.1 = x.2.2.2.2 29 (cel S q (x.2.2.2.1 - 1)) ∧ x.2.1 = x.2.2.2.2 30 (cel S q (x.2.2.2.1 - 1)) ∧ x.2.2.1 = x.2.2.2.2 31 (cel S q (x.2.2.2.1 - 1)))) (fun x => (S 10 q - x.2.2.2.1).toNat) (fun n x hJ ih => ?_) zBig (0, 0, 0, 0, S) ⟨⟨Int.le_refl _, by show 0 ≤ S 10 q; omega⟩, fun _ _ => rfl, ⟨fun h => absurd (show (0 : Int) < 0 from h) (by decide), fun k k1 kn => by exact absurd (show k < 0 from kn) (by omega)⟩, fun _ _ => ⟨rfl, rfl, rfl⟩, fun h => absurd (show (1 : Int) ≤ 0 from h) (by decide)⟩ (by show (S 10 q - 0).toNat < zBig; exact zbig (by omega))
  obtain ⟨a, b, c, k, T⟩ := x
  simp only at hJ ih
  obtain ⟨hk, hs, hg, ho, hl⟩ := hJ
  show zP (L_X0_weigh_10 q (n + 1) a b c k T) _
  have t2 : T 2 = S 2 := hs 2 (by decide)
  have t7 : T 7 = S 7 := hs 7 (by decide)
  have t8 : T 8 = S 8 := hs 8 (by decide)
  have t9 : T 9 = S 9 := hs 9 (by decide)
  have t10 : T 10 = S 10 := hs 10 (by decide)
  have t11 : T 11 = S 11 := hs 11 (by decide)
  have t12 : T 12 = S 12 := hs 12 (by decide)
  have t21 : T 21 = S 21 := hs 21 (by decide)
  have RT : cRow T := cRow_fr hR t2 t7 t8 t9 t10 t11
  have ct : cel T = cel S := by
    funext x y
    unfold cel
    rw [t8, t9]
  rw [L_X0_weigh_10.eq_2, e_sizeIn RT, zb_some, t7, t10, if_pos (show 0 ≤ q ∧ q < S 7 11 from ⟨q0, q1⟩)]
  by_cases g : S 10 q ≤ k
  · rw [if_pos g, zP_ret]
    have e : k = S 10 q := by omega
    subst e
    exact ⟨hs, hg, ho⟩
  · have kk : k < S 10 q := by omega
    have cr := cel_r hR q0 q1 hk.1 kk
    rw [if_neg g, e_cellIn1 RT q0 (by rw [t7]; exact q1) hk.1 (by rw [t10]; exact kk), zb_some, ct, e_hairsBy, zb_some, if_pos cr, e_addedIn, zb_some, if_pos cr, t21, t12]
    have hbk := hb k hk.1 kk
    have fin : ∀ x y z : Int, gBr (cel S q) (S 21) (S 12) (up (up (up T 29 (cel S q k) x) 30 (cel S q k) y) 31 (cel S q k) z 29) (up (up (up T 29 (cel S q k) x) 30 (cel S q k) y) 31 (cel S q k) z 30) (up (up (up T 29 (cel S q k) x) 30 (cel S q k) y) 31 (cel S q k) z 31) (k + 1) → zP (J_X0_weigh_131 (L_X0_weigh_10 q n) q x y z k (cel S q k) T) (fun _ T => rSame [29, 30, 31] S T ∧ gBr (cel S q) (S 21) (S 12) (T 29) (T 30) (T 31) (S 10 q) ∧ ∀ c : Int, (∀ k : Int, 0 ≤ k → k < S 10 q → c ≠ cel S q k) → T 29 c = S 29 c ∧ T 30 c = S 30 c ∧ T 31 c = S 31 c) := by
      intro x y z hg'
      unfold J_X0_weigh_131
      rw [e_keepW cr.1 cr.2, zb_some, zl_in (by omega)]
      refine ih (x, y, z, k + 1, _) ⟨by show 0 ≤ k + 1 ∧ k + 1 ≤ S 10 q; omega, ((hs.up (by decide)).up (by decide)).up (by decide), hg', fun c' hc => ?_, fun _ => ?_⟩ (by show (S 10 q - (k + 1)).toNat < (S 10 q - k).toNat; omega)
      · show up (up (up T 29 (cel S q k) x) 30 (cel S q k) y) 31 (cel S q k) z 29 c' = _ ∧ up (up (up T 29 (cel S q k) x) 30 (cel S q k) y) 31 (cel S q k) z 30 c' = _ ∧ up (up (up T 29 (cel S q k) x) 30 (cel S q k) y) 31 (cel S q k) z 31 c' = _
        have ne := hc k hk.1 kk
        rw [up_cell _ (by decide), up_cell _ (by decide), up_same, if_neg ne, up_cell _ (by decide), up_same, if_neg ne, up_cell _ (by decide), up_same, if_neg ne, up_cell _ (by decide), up_cell _ (by decide)]
        exact ho c' hc
      · show x = up (up (up T 29 (cel S q k) x) 30 (cel S q k) y) 31 (cel S q k) z 29 (cel S q (k + 1 - 1)) ∧ y = up (up (up T 29 (cel S q k) x) 30 (cel S q k) y) 31 (cel S q k) z 30 (cel S q (k + 1 - 1)) ∧ z = up (up (up T 29 (cel S q k) x) 30 (cel S q k) y) 31 (cel S q k) z 31 (cel S q (k + 1 - 1))
        rw [show k + 1 - 1 = k by omega, up_cell _ (by decide), up_cell _ (by decide), up_eq, up_cell _ (by decide), up_eq, up_eq]
        exact ⟨rfl, rfl, rfl⟩
    have upd : ∀ x y z j : Int, up (up (up T 29 (cel S q k) x) 30 (cel S q k) y) 31 (cel S q k) z 29 j = (if j = cel S q k then x else T 29 j) ∧ up (up (up T 29 (cel S q k) x) 30 (cel S q k) y) 31 (cel S q k) z 30 j = (if j = cel S q k then y else T 30 j) ∧ up (up (up T 29 (cel S q k) x) 30 (cel S q k) y) 31 (cel S q k) z 31 j = (if j = cel S q k then z else T 31 j) := by
      intro x y z j
      rw [up_cell _ (by decide), up_cell _ (by decide), up_same, up_cell _ (by decide), up_same, up_cell _ (by decide), up_same, up_cell _ (by decide), up_cell _ (by decide)]
      exact ⟨rfl, rfl, rfl⟩
    have old : ∀ j : Int, 0 ≤ j → j < k → cel S q j ≠ cel S q k := by
      intro j j0 jk e
      have := (cel_inj hR q0 q1 j0 (by omega) q0 q1 hk.1 kk e).2
      omega
    by_cases z : k = 0
    · subst z
      have lin := hbk
      rw [if_pos rfl, e_third (by omega) (by omega), zb_some, zl_in (by omega), e_third (by omega) (by omega), zb_some, e_third (by omega) (by omega), zb_some]
      refine fin _ _ _ ⟨fun _ => ?_, fun j j1 jn => by omega⟩
      have u := upd ((S 21 (cel S q 0) + 2 - 0) / 3 + S 12 (cel S q 0)) ((S 21 (cel S q 0) + 2 - 1) / 3) ((S 21 (cel S q 0) + 2 - 2) / 3) (cel S q 0)
      rw [if_pos rfl, if_pos rfl, if_pos rfl] at u
      rw [u.1, u.2.1, u.2.2]
      omega
    · have l1 := hl (by omega)
      have bb := hg.bd' (fun j j0 jn => hb j j0 (by omega)) (k := k - 1) (by omega) (by omega)
      rw [← l1.1, ← l1.2.1, ← l1.2.2] at bb
      have pre : ∀ x y z : Int, gBr (cel S q) (S 21) (S 12) (up (up (up T 29 (cel S q k) x) 30 (cel S q k) y) 31 (cel S q k) z 29) (up (up (up T 29 (cel S q k) x) 30 (cel S q k) y) 31 (cel S q k) z 30) (up (up (up T 29 (cel S q k) x) 30 (cel S q k) y) 31 (cel S q k) z 31) k := by
        intro x y z
        refine hg.congr (fun j j0 jn => ?_)
        have u := upd x y z (cel S q j)
        rw [if_neg (old j j0 jn), if_neg (old j j0 jn), if_neg (old j j0 jn)] at u
        exact u
      have nk := old (k - 1) (by omega) (by omega)
      rw [if_neg z, zg_in (by omega), zl_in (by omega)]
      by_cases o : k % 2 = 1
      · rw [if_pos o, zl_in (by omega)]
        refine fin _ _ _ ((pre _ _ _).push (by omega) ⟨fun _ => ?_, fun e => by omega⟩)
        have u := upd b (a + S 21 (cel S q k) + S 12 (cel S q k)) c (cel S q k)
        have u' := upd b (a + S 21 (cel S q k) + S 12 (cel S q k)) c (cel S q (k - 1))
        rw [if_pos rfl, if_pos rfl, if_pos rfl] at u
        rw [if_neg nk, if_neg nk, if_neg nk] at u'
        rw [u.1, u.2.1, u.2.2, u'.1, u'.2.1, u'.2.2]
        omega
      · rw [if_neg o, zl_in (by omega)]
        refine fin _ _ _ ((pre _ _ _).push (by omega) ⟨fun e => by omega, fun _ => ?_⟩)
        have u := upd a (c + S 21 (cel S q k) + S 12 (cel S q k)) b (cel S q k)
        have u' := upd a (c + S 21 (cel S q k) + S 12 (cel S q k)) b (cel S q (k - 1))
        rw [if_pos rfl, if_pos rfl, if_pos rfl] at u
        rw [if_neg nk, if_neg nk, if_neg nk] at u'
        rw [u.1, u.2.1, u.2.2, u'.1, u'.2.1, u'.2.2]
        omega
theorem iBrd_of (h : ∀ q : Int, 0 ≤ q → q < S 7 11 → gBr (cel S q) (S 21) (S 12) (S 29) (S 30) (S 31) (S 10 q)) (hR : cRow S) : iBrd S := by
  intro q q0 q1
  have := hR.2.1 q q0 q1
  exact ⟨(h q q0 q1).1 (by omega), (h q q0 q1).2⟩
theorem iBrd.br (h : iBrd S) {q : Int} (q0 : 0 ≤ q) (q1 : q < S 7 11) : gBr (cel S q) (S 21) (S 12) (S 29) (S 30) (S 31) (S 10 q) := ⟨fun _ => (h q q0 q1).1, (h q q0 q1).2⟩
theorem e_settle0 (hR : cRow S) (hb : ∀ q : Int, 0 ≤ q → q < S 7 11 → gBo (cel S q) (S 21) (S 12) (S 10 q)) : zP (M_X0_settle S) (fun _ T => rSame [29, 30, 31] S T ∧ iBrd T) := by
  unfold M_X0_settle
  refine zloop (b := S 7 11) (fun v T => (0 ≤ v ∧ v ≤ S 7 11) ∧ rSame [29, 30, 31] S T ∧ ∀ q : Int, 0 ≤ q → q < v → gBr (cel S q) (S 21) (S 12) (T 29) (T 30) (T 31) (S 10 q)) (fun n v T hJ hv => ?_) (fun n v T hJ hv ih => ?_) _ _ _ ⟨⟨Int.le_refl _, hR.1.1⟩, fun _ _ => rfl, fun q a b => by omega⟩ (zbig (by have := hR.1; omega))
  · obtain ⟨a, hs, hg⟩ := hJ
    have t7 : T 7 = S 7 := hs 7 (by decide)
    rw [L_X0_settle_2.eq_2, t7, if_pos hv, zP_ret]
    have t2 : T 2 = S 2 := hs 2 (by decide)
    have t8 : T 8 = S 8 := hs 8 (by decide)
    have t9 : T 9 = S 9 := hs 9 (by decide)
    have t10 : T 10 = S 10 := hs 10 (by decide)
    have t11 : T 11 = S 11 := hs 11 (by decide)
    have t12 : T 12 = S 12 := hs 12 (by decide)
    have t21 : T 21 = S 21 := hs 21 (by decide)
    have ct : cel T = cel S := by
      funext x y
      unfold cel
      rw [t8, t9]
    refine ⟨hs, iBrd_of (fun q q0 q1 => ?_) (cRow_fr hR t2 t7 t8 t9 t10 t11)⟩
    rw [t7] at q1
    rw [ct, t21, t12, t10]
    exact hg q q0 (by omega)
  · obtain ⟨a, hs, hg⟩ := hJ
    have t7 : T 7 = S 7 := hs 7 (by decide)
    have t2 : T 2 = S 2 := hs 2 (by decide)
    have t8 : T 8 = S 8 := hs 8 (by decide)
    have t9 : T 9 = S 9 := hs 9 (by decide)
    have t10 : T 10 = S 10 := hs 10 (by decide)
    have t11 : T 11 = S 11 := hs 11 (by decide)
    have t12 : T 12 = S 12 := hs 12 (by decide)
    have t21 : T 21 = S 21 := hs 21 (by decide)
    have ct : cel T = cel S := by
      funext x y
      unfold cel
      rw [t8, t9]
    rw [L_X0_settle_2.eq_2, t7, if_neg (by omega), zP_zb]
    refine zP_mono (e_weigh (S := T) (q := v) (cRow_fr hR t2 t7 t8 t9 t10 t11) a.1 (by rw [t7]; exact hv) (by rw [ct, t21, t12, t10]; exact hb v a.1 hv)) (fun _ U hU => ?_)
    obtain ⟨u1, u2, u3⟩ := hU
    rw [ct, t21, t12, t10] at u2
    rw [ct, t10] at u3
    rw [zl_in (by have := hR.1; omega)]
    refine ih _ ⟨by omega, fun k hk => (u1 k hk).trans (hs k hk), fun q q0 qv => ?_⟩
    by_cases g : q = v
    · subst g
      exact u2
    · refine (hg q q0 (by omega)).congr (fun k k0 k1 => u3 _ (fun j j0 j1 e => ?_))
      have := (cel_inj hR q0 (by omega) k0 k1 a.1 hv j0 j1 e).1
      omega
end B1
