/-! a line: the reference -/
def mSt (t : Int → Int) (n : Int) (m : Nat) (T : HS) (i : Nat) : Prop := (∀ j : Nat, j ≤ m → T 54 j = tP t n j ∧ mTk t n (T 53 j) (T 55 j) (tP t n j)) ∧ iWords T ∧ T 51 7 = i ∧ i ≤ m
abbrev mO' : List (Nat × Int) := [(51, 7), (51, 8), (51, 10), (51, 15), (51, 16)]
theorem zl2i_99 : ∀ k : Nat, k < 100 → zl2i (k : Int) = k := by decide +kernel
theorem zl2i_in {v : Int} (h : 0 ≤ v ∧ v ≤ 99) : zl2i v = v := by
  obtain ⟨k, rfl⟩ := Int.eq_ofNat_of_zero_le h.1
  exact zl2i_99 k (by omega)
theorem zcmp_0 {x y : Int} : zcmp x y = 0 ↔ x = y := by
  unfold zcmp
  repeat' split
  all_goals omega
theorem zcmp_lt {x y : Int} : zcmp x y < 0 ↔ x < y := by
  unfold zcmp
  repeat' split
  all_goals omega
theorem zcmp_le {x y : Int} : zcmp x y ≤ 0 ↔ x ≤ y := by
  unfold zcmp
  repeat' split
  all_goals omega
section ML
variable {t : Int → Int} {n : Int} {m : Nat} {T : HS} {i : Nat}
theorem mSt.k (h : mSt t n m T i) (hm1 : m ≤ 1000) : T 51 7 = i ∧ i ≤ m ∧ T 54 i = tP t n i ∧ mTk t n (T 53 i) (T 55 i) (tP t n i) ∧ (0 ≤ T 51 7 ∧ T 51 7 < 1002) := by
  obtain ⟨h1, h2, h3, h4⟩ := h
  have := h1 i h4
  exact ⟨h3, h4, this.1, this.2, by omega⟩
theorem mSt.fr {U : HS} (h : mSt t n m T i) (f : zFr [57, 58, 59, 60] [(51, 8), (51, 10), (51, 15), (51, 16)] T U) : mSt t n m U i := by
  obtain ⟨h1, h2, h3, h4⟩ := h
  have e53 : U 53 = T 53 := f.cell 53 (by decide) (by decide)
  have e54 : U 54 = T 54 := f.cell 54 (by decide) (by decide)
  have e55 : U 55 = T 55 := f.cell 55 (by decide) (by decide)
  have e56 : U 56 = T 56 := f.cell 56 (by decide) (by decide)
  have e7 : U 51 7 = T 51 7 := f 51 7 (by decide) (by decide)
  unfold mSt iWords
  rw [e53, e54, e55, e56, e7]
  exact ⟨h1, h2, h3, h4⟩
theorem mSt.at (h : mSt t n m T i) {j : Nat} (hj : j ≤ m) : mSt t n m (up T 51 7 j) j := by
  obtain ⟨h1, h2, h3, h4⟩ := h
  refine ⟨fun k hk => ?_, ?_, up_eq .., hj⟩
  · rw [up_cell _ (by decide), up_cell _ (by decide), up_cell _ (by decide)]
    exact h1 k hk
  · unfold iWords
    rw [upfun (by decide)]
    exact h2
theorem m_isW {a kd : Int} (h : mSt t n m T i) (hm1 : m ≤ 1000) (h0 : T 51 8 = 0) (ha : 0 ≤ a ∧ a < 8) (hw : (T 53 i = 1 ∧ T 55 i = T 56 a) ↔ tK t n i = kd) : M_X12_isWord a T = some (if tK t n i = kd then 1 else 0, T) := by
  obtain ⟨k1, k2, k3, k4, k5⟩ := h.k hm1
  unfold M_X12_isWord
  rw [if_pos h0, zg_in k5, k1]
  by_cases g : T 53 i = 1
  · rw [if_pos g, zg_in (by omega), zg_in ha]
    by_cases g2 : T 55 i = T 56 a
    · rw [if_pos (zcmp_0.mpr g2), if_pos (hw.mp ⟨g, g2⟩)]
    · rw [if_neg (fun q => g2 (zcmp_0.mp q)), if_neg (fun q => g2 (hw.mpr q).2)]
  · rw [if_neg g, if_neg (fun q => g (hw.mpr q).1)]
theorem m_isWF {a : Int} (h0 : T 51 8 ≠ 0) : M_X12_isWord a T = some (0, T) := by
  unfold M_X12_isWord
  rw [if_neg h0]
theorem m_word (h : mSt t n m T i) (hm1 : m ≤ 1000) (h0 : T 51 8 = 0) : M_X12_isWord 0 T = some (if tK t n i = 4 then 1 else 0, T) ∧ M_X12_isWord 1 T = some (if tK t n i = 5 then 1 else 0, T) ∧ M_X12_isWord 2 T = some (if tK t n i = 6 then 1 else 0, T) ∧ M_X12_isWord 3 T = some (if tK t n i = 7 then 1 else 0, T) ∧ M_X12_isWord 4 T = some (if tK t n i = 0 then 1 else 0, T) ∧ M_X12_isWord 5 T = some (if tK t n i = 1 then 1 else 0, T) ∧ M_X12_isWord 6 T = some (if tK t n i = 2 then 1 else 0, T) ∧ M_X12_isWord 7 T = some (if tK t n i = 3 then 1 else 0, T) := by
  obtain ⟨k1, k2, k3, k4, k5⟩ := h.k hm1
  obtain ⟨w0, w1, w2, w3, w4, w5, w6, w7⟩ := h.2.1
  obtain ⟨a0, a1, a2, a3, a4, a5, a6, a7, -⟩ := k4
  exact ⟨m_isW h hm1 h0 (by decide) (by rw [w0]; exact a4), m_isW h hm1 h0 (by decide) (by rw [w1]; exact a5), m_isW h hm1 h0 (by decide) (by rw [w2]; exact a6), m_isW h hm1 h0 (by decide) (by rw [w3]; exact a7), m_isW h hm1 h0 (by decide) (by rw [w4]; exact a0), m_isW h hm1 h0 (by decide) (by rw [w5]; exact a1), m_isW h hm1 h0 (by decide) (by rw [w6]; exact a2), m_isW h hm1 h0 (by decide) (by rw [w7]; exact a3)⟩
theorem m_wrong {a : Int} (h : mSt t n m T i) (hm1 : m ≤ 1000) (hn : 0 ≤ n ∧ n ≤ 1000) (h0 : T 51 8 = 0) (ha : 0 ≤ a ∧ a ≤ 9) : M_X12_wrong a T = some (0, up T 51 8 (a + 16 * tP t n i)) := by
  obtain ⟨k1, k2, k3, k4, k5⟩ := h.k hm1
  have pb := tP_b (t := t) (i := i) hn
  unfold M_X12_wrong
  rw [if_pos h0, zg_in k5, k1, k3, zl_in (by omega), zs_in]
theorem m_wrongF {a : Int} (h0 : T 51 8 ≠ 0) : M_X12_wrong a T = some (0, T) := by
  unfold M_X12_wrong
  rw [if_neg h0]
theorem m_isSignF {c : Int} (h0 : T 51 8 ≠ 0) : M_X12_isSign c T = some (0, T) := by
  unfold M_X12_isSign
  rw [if_neg h0]
theorem m_takeSignF {c : Int} (h0 : T 51 8 ≠ 0) : M_X12_takeSign c T = some (0, T) := by
  unfold M_X12_takeSign
  rw [m_isSignF h0, zb_some, if_pos rfl, m_wrongF h0, zb_some]
theorem m_isSg {c kd : Int} (h : mSt t n m T i) (hm1 : m ≤ 1000) (h0 : T 51 8 = 0) (hw : (T 53 i = 3 ∧ T 55 i = c) ↔ tK t n i = kd) : M_X12_isSign c T = some (if tK t n i = kd then 1 else 0, T) := by
  obtain ⟨k1, k2, k3, k4, k5⟩ := h.k hm1
  unfold M_X12_isSign
  rw [if_pos h0, zg_in k5, k1]
  by_cases g : T 53 i = 3
  · rw [if_pos g, zg_in (by omega)]
    by_cases g2 : T 55 i = c
    · rw [if_pos (zcmp_0.mpr g2), if_pos (hw.mp ⟨g, g2⟩)]
    · rw [if_neg (fun q => g2 (zcmp_0.mp q)), if_neg (fun q => g2 (hw.mpr q).2)]
  · rw [if_neg g, if_neg (fun q => g (hw.mpr q).1)]
theorem m_takeSg {c kd : Int} (h : mSt t n m T i) (hm1 : m ≤ 1000) (hn : 0 ≤ n ∧ n ≤ 1000) (h0 : T 51 8 = 0) (hw : (T 53 i = 3 ∧ T 55 i = c) ↔ tK t n i = kd) : M_X12_takeSign c T = some (0, if tK t n i = kd then up T 51 7 (i + 1 : Nat) else up T 51 8 (1 + 16 * tP t n i)) := by
  obtain ⟨k1, k2, k3, k4, k5⟩ := h.k hm1
  unfold M_X12_takeSign
  rw [m_isSg h hm1 h0 hw, zb_some]
  by_cases g : tK t n i = kd
  · rw [if_pos g, if_neg (by decide), if_pos g, k1, zl_in (by omega), zs_in]
    rfl
  · rw [if_neg g, if_pos rfl, if_neg g, m_wrong h hm1 hn h0 (by decide), zb_some]
theorem m_sign (h : mSt t n m T i) (hm1 : m ≤ 1000) (hn : 0 ≤ n ∧ n ≤ 1000) (h0 : T 51 8 = 0) : M_X12_takeSign 40 T = some (0, if tK t n i = 9 then up T 51 7 (i + 1 : Nat) else up T 51 8 (1 + 16 * tP t n i)) ∧ M_X12_takeSign 41 T = some (0, if tK t n i = 10 then up T 51 7 (i + 1 : Nat) else up T 51 8 (1 + 16 * tP t n i)) ∧ M_X12_takeSign 59 T = some (0, if tK t n i = 11 then up T 51 7 (i + 1 : Nat) else up T 51 8 (1 + 16 * tP t n i)) := by
  obtain ⟨k1, k2, k3, k4, k5⟩ := h.k hm1
  obtain ⟨a0, a1, a2, a3, a4, a5, a6, a7, a8, a9, b0, b1, b2, b3⟩ := k4
  exact ⟨m_takeSg h hm1 hn h0 b0, m_takeSg h hm1 hn h0 b1, m_takeSg h hm1 hn h0 b2⟩
theorem m_numF {lo hi : Int} (h0 : 0 < T 51 8) : M_X12_takeNumber lo hi T = some (0, T) := by
  unfold M_X12_takeNumber J_X12_takeNumber_28 J_X12_takeNumber_70
  rw [if_neg (by omega), if_neg (by omega), if_neg (by omega)]
theorem m_num {lo hi : Int} (h : mSt t n m T i) (hm1 : m ≤ 1000) (hn : 0 ≤ n ∧ n ≤ 1000) (h0 : T 51 8 = 0) : M_X12_takeNumber lo hi T = (if fN t n lo hi i = 0 then some (tV t n i, up T 51 7 (i + 1 : Nat)) else some (0, up T 51 8 (fN t n lo hi i))) := by
  obtain ⟨k1, k2, k3, k4, k5⟩ := h.k hm1
  obtain ⟨a0, a1, a2, a3, a4, a5, a6, a7, a8, a9, b0, b1, b2, b3⟩ := k4
  have pb := tP_b (t := t) (i := i) hn
  have uf : ∀ v : Int, 0 < v → J_X12_takeNumber_70 (up T 51 8 v) = some (0, up T 51 8 v) := fun v hv => by
    unfold J_X12_takeNumber_70
    rw [up_eq, if_neg (by omega)]
  unfold M_X12_takeNumber J_X12_takeNumber_28 J_X12_takeNumber_65
  rw [if_pos h0, zg_in k5, k1, m_wrong h hm1 hn h0 (by decide), zb_some, m_wrong h hm1 hn h0 (by decide), zb_some, if_pos h0, zg_in (by omega), zg_in (by omega)]
  unfold fN
  by_cases g : tK t n i = 8
  · have e2 : T 53 i = 2 := a8.mpr g
    have ev : T 55 i = tV t n i := a9 g
    have vr := ((tP_next (t := t) (i := i) hn).2.2.2 g).1
    rw [if_pos e2, if_pos g, ev]
    by_cases g1 : tV t n i < lo
    · rw [if_pos (zcmp_lt.mpr g1), if_pos (Or.inl g1), if_neg (by omega), uf _ (by omega)]
    · rw [if_neg (fun q => g1 (zcmp_lt.mp q))]
      by_cases g3 : tV t n i ≤ hi
      · rw [if_pos (zcmp_le.mpr g3), if_neg (show ¬ (tV t n i < lo ∨ hi < tV t n i) by omega), if_pos rfl]
        unfold J_X12_takeNumber_70
        rw [if_pos (by omega), k1, zl_in (by omega), zs_in, up_eq, up_cell _ (show (55 : Nat) ≠ 51 by decide), show (i : Int) + 1 - 1 = i by omega, zg_in (by omega), ev, zl2i_in vr]
        rfl
      · rw [if_neg (fun q => g3 (zcmp_le.mp q)), if_pos (Or.inr (by omega)), if_neg (by omega), uf _ (by omega)]
  · rw [if_neg (fun q => g (a8.mp q)), if_neg g, if_neg (by omega), uf _ (by omega)]
theorem m_wayW (h : mSt t n m T i) (hm1 : m ≤ 1000) (h0 : T 51 8 = 0) : M_X12_wayWord T = some (if tK t n i ≤ 3 then tK t n i + 4 else -1, T) := by
  obtain ⟨-, -, -, -, w4, w5, w6, w7⟩ := m_word h hm1 h0
  have kr := (kKi_r (t := t) (n := n) (p := tP t n i)).1
  have kr' : 0 ≤ tK t n i := kr
  have eb : zBig = 4294967291 + 1 + 1 + 1 + 1 + 1 := rfl
  unfold M_X12_wayWord
  rw [eb, L_X12_wayWord_2.eq_2, if_neg (by decide), w4, zb_some]
  by_cases c0 : tK t n i = 0
  · rw [zif1 c0, if_neg (by decide), if_pos (by omega), c0]
    rfl
  · rw [zif0 c0, if_pos rfl, zl_in (by decide)]
    show L_X12_wayWord_2 (4294967291 + 1 + 1 + 1 + 1) 5 T = _
    rw [L_X12_wayWord_2.eq_2, if_neg (by decide), w5, zb_some]
    by_cases c1 : tK t n i = 1
    · rw [zif1 c1, if_neg (by decide), if_pos (by omega), c1]
      rfl
    · rw [zif0 c1, if_pos rfl, zl_in (by decide)]
      show L_X12_wayWord_2 (4294967291 + 1 + 1 + 1) 6 T = _
      rw [L_X12_wayWord_2.eq_2, if_neg (by decide), w6, zb_some]
      by_cases c2 : tK t n i = 2
      · rw [zif1 c2, if_neg (by decide), if_pos (by omega), c2]
        rfl
      · rw [zif0 c2, if_pos rfl, zl_in (by decide)]
        show L_X12_wayWord_2 (4294967291 + 1 + 1) 7 T = _
        rw [L_X12_wayWord_2.eq_2, if_neg (by decide), w7, zb_some]
        by_cases c3 : tK t n i = 3
        · rw [zif1 c3, if_neg (by decide), if_pos (by omega), c3]
          rfl
        · rw [zif0 c3, if_pos rfl, zl_in (by decide)]
          show L_X12_wayWord_2 (4294967291 + 1) 8 T = _
          rw [L_X12_wayWord_2.eq_2, if_pos (by decide), if_neg (by omega)]
theorem m_wayWF (h0 : T 51 8 ≠ 0) : M_X12_wayWord T = some (-1, T) := by
  refine zP_eq ?_
  unfold M_X12_wayWord
  refine zloop (b := 8) (fun v U => (4 ≤ v ∧ v ≤ 8) ∧ U = T) (fun n v U hJ hv => ?_) (fun n v U hJ hv ih => ?_) _ _ _ ⟨⟨by decide, by decide⟩, rfl⟩ (zbig (by decide))
  · obtain ⟨a, rfl⟩ := hJ
    rw [L_X12_wayWord_2.eq_2, if_pos (by omega), zP_ret]
    exact ⟨rfl, rfl⟩
  · obtain ⟨a, rfl⟩ := hJ
    rw [L_X12_wayWord_2.eq_2, if_neg (by omega), m_isWF h0, zb_some, if_pos rfl, zl_in (by omega)]
    exact ih _ ⟨by omega, rfl⟩
theorem m_isStep (h : mSt t n m T i) (hm1 : m ≤ 1000) (h0 : T 51 8 = 0) : M_X12_isStep T = some (if 4 ≤ tK t n i ∧ tK t n i ≤ 7 then 1 else 0, T) := by
  obtain ⟨w0, w1, w2, w3, -⟩ := m_word h hm1 h0
  have one : ∀ v : Int, 0 ≤ v → v ≤ 3 → M_X12_isWord v T = some (if tK t n i = v + 4 then 1 else 0, T) := by
    intro v v0 v3
    have e : v = 0 ∨ v = 1 ∨ v = 2 ∨ v = 3 := by omega
    rcases e with rfl | rfl | rfl | rfl
    · exact w0
    · exact w1
    · exact w2
    · exact w3
  refine zP_eq ?_
  unfold M_X12_isStep
  refine zloop2 (b := 4) (fun b v U => (0 ≤ v ∧ v ≤ 4) ∧ U = T ∧ (b = 0 ∧ ¬ (4 ≤ tK t n i ∧ tK t n i < v + 4) ∨ b = 1 ∧ 4 ≤ tK t n i ∧ tK t n i < v + 4)) (fun k b v U hJ hv => ?_) (fun k b v U hJ hv ih => ?_) _ _ _ _ ⟨⟨by decide, by decide⟩, rfl, Or.inl ⟨rfl, by omega⟩⟩ (zbig (by decide))
  · obtain ⟨a, rfl, c⟩ := hJ
    rw [L_X12_isStep_4.eq_2, if_pos (by omega), zg_in (by omega), zP_ret]
    refine ⟨?_, rfl⟩
    rcases c with ⟨rfl, c⟩ | ⟨rfl, c⟩
    · rw [if_neg (by omega)]
    · rw [if_pos (by omega)]
  · obtain ⟨a, rfl, c⟩ := hJ
    rw [L_X12_isStep_4.eq_2, if_neg (by omega)]
    unfold J_X12_isStep_21 J_X12_isStep_26
    rcases c with ⟨rfl, c⟩ | ⟨rfl, c⟩
    · rw [if_pos rfl, one v a.1 (by omega), zb_some]
      by_cases g : tK t n i = v + 4
      · rw [zif1 g, if_neg (by decide), zl_in (by omega)]
        exact ih _ _ ⟨by omega, rfl, Or.inr ⟨rfl, by omega⟩⟩
      · rw [zif0 g, if_pos rfl, zl_in (by omega)]
        exact ih _ _ ⟨by omega, rfl, Or.inl ⟨rfl, by omega⟩⟩
    · rw [if_neg (by decide), zl_in (by omega)]
      exact ih _ _ ⟨by omega, rfl, Or.inr ⟨rfl, by omega⟩⟩
theorem m_isStepF (h0 : T 51 8 ≠ 0) : M_X12_isStep T = some (0, T) := by
  refine zP_eq ?_
  unfold M_X12_isStep
  refine zloop2 (b := 4) (fun b v U => (0 ≤ v ∧ v ≤ 4) ∧ U = T ∧ b = 0) (fun k b v U hJ hv => ?_) (fun k b v U hJ hv ih => ?_) _ _ _ _ ⟨⟨by decide, by decide⟩, rfl, rfl⟩ (zbig (by decide))
  · obtain ⟨a, rfl, rfl⟩ := hJ
    rw [L_X12_isStep_4.eq_2, if_pos (by omega), zg_in (by omega), zP_ret]
    exact ⟨rfl, rfl⟩
  · obtain ⟨a, rfl, rfl⟩ := hJ
    rw [L_X12_isStep_4.eq_2, if_neg (by omega), if_pos rfl, m_isWF h0, zb_some, if_pos rfl]
    unfold J_X12_isStep_26
    rw [zl_in (by omega)]
    exact ih _ _ ⟨by omega, rfl, rfl⟩
theorem m_emit {a b c : Int} (hx : 0 ≤ T 51 10 ∧ T 51 10 < 1100) : zP (M_X12_emit a b c T) (fun r U => r = T 51 10 ∧ U 51 10 = T 51 10 + 1 ∧ (∀ q : Int, U 57 q = (if q = T 51 10 then a else T 57 q) ∧ U 58 q = (if q = T 51 10 then b else T 58 q) ∧ U 59 q = (if q = T 51 10 then c else T 59 q) ∧ U 60 q = (if q = T 51 10 then 0 else T 60 q)) ∧ zFr [57, 58, 59, 60] [(51, 10)] T U) := by
  unfold M_X12_emit
  generalize hx0 : T 51 10 = x at hx ⊢
  rw [zg_in hx, zs_in]
  have e1 : up T 57 x a 51 10 = x := by rw [up_cell _ (by decide), hx0]
  rw [e1, zg_in hx, zs_in]
  have e2 : up (up T 57 x a) 58 x b 51 10 = x := by rw [up_cell _ (by decide), e1]
  rw [e2, zg_in hx, zs_in]
  have e3 : up (up (up T 57 x a) 58 x b) 59 x c 51 10 = x := by rw [up_cell _ (by decide), e2]
  rw [e3, zg_in hx, zs_in]
  have e4 : up (up (up (up T 57 x a) 58 x b) 59 x c) 60 x 0 51 10 = x := by rw [up_cell _ (by decide), e3]
  rw [e4, zl_in (by omega), zs_in, up_eq, zl_in (by omega), zP_ret]
  refine ⟨by omega, up_eq .., fun q => ⟨?_, ?_, ?_, ?_⟩, zfr_upO (zfr_up (zfr_up (zfr_up (zfr_up zFr.rf (by decide)) (by decide)) (by decide)) (by decide)) (by decide)⟩
  · rw [up_cell _ (by decide), up_cell _ (by decide), up_cell _ (by decide), up_cell _ (by decide), up_same]
  · rw [up_cell _ (by decide), up_cell _ (by decide), up_cell _ (by decide), up_same, up_cell _ (by decide)]
  · rw [up_cell _ (by decide), up_cell _ (by decide), up_same, up_cell _ (by decide), up_cell _ (by decide)]
  · rw [up_cell _ (by decide), up_same, up_cell _ (by decide), up_cell _ (by decide), up_cell _ (by decide)]
theorem m_wayRF (h0 : 0 < T 51 8) : M_X12_readWay T = some (0, T) := by
  unfold M_X12_readWay
  rw [m_wayWF (by omega), zb_some, if_neg (by decide), m_wrongF (by omega), zb_some]
theorem m_way (h : mSt t n m T i) (hm : tP t n m = n) (hm1 : m ≤ 1000) (hn : 0 ≤ n ∧ n ≤ 1000) (h0 : T 51 8 = 0) : zP (M_X12_readWay T) (fun _ U => (fW t n i ≠ 0 → U 51 8 = fW t n i) ∧ (fW t n i = 0 → mSt t n m U (i + 2) ∧ U 51 8 = 0 ∧ U 51 15 = gAcr (tK t n i) * tV t n (i + 1) ∧ U 51 16 = gDwn (tK t n i) * tV t n (i + 1)) ∧ zFr [] [(51, 7), (51, 8), (51, 15), (51, 16)] T U) := by
  obtain ⟨k1, k2, k3, k4, k5⟩ := h.k hm1
  have kr : 0 ≤ tK t n i := (kKi_r (t := t) (n := n) (p := tP t n i)).1
  unfold M_X12_readWay
  rw [m_wayW h hm1 h0, zb_some]
  by_cases g : tK t n i ≤ 3
  · have im := tK_m hm k2 (show tK t n i ≠ 12 by omega)
    have f1 : fW t n i = fN t n 0 16 (i + 1) := by
      unfold fW
      rw [if_neg (by omega)]
    rw [if_pos g, if_pos (by omega), k1, zl_in (by omega), zs_in]
    have st := h.at (j := i + 1) im
    have ej : ((i + 1 : Nat) : Int) = (i : Int) + 1 := rfl
    rw [ej] at st
    rw [m_num st hm1 hn (by rw [up_same, if_neg (by decide)]; exact h0), ← f1]
    have tail : ∀ (V : HS) (v : Int), -1000 ≤ v → v ≤ 1000 → zP (if tK t n i + 4 = 6 then (zl (-v) fun x15 => J_X12_readWay_56 (tK t n i + 4) v x15 V) else if tK t n i + 4 = 7 then J_X12_readWay_56 (tK t n i + 4) v v V else J_X12_readWay_56 (tK t n i + 4) v 0 V) (fun _ U => U 51 15 = gAcr (tK t n i) * v ∧ U 51 16 = gDwn (tK t n i) * v ∧ zFr [] [(51, 15), (51, 16)] V U) := by
      intro V v v0 v1
      unfold J_X12_readWay_56 J_X12_readWay_80
      have c : tK t n i = 0 ∨ tK t n i = 1 ∨ tK t n i = 2 ∨ tK t n i = 3 := by omega
      have fin : ∀ a b : Int, zFr [] [(51, 15), (51, 16)] V (up (up V 51 15 a) 51 16 b) := fun a b => zfr_upO (zfr_upO zFr.rf (by decide)) (by decide)
      have v15 : ∀ a b : Int, up (up V 51 15 a) 51 16 b 51 15 = a := fun a b => by rw [up_same, if_neg (by decide), up_eq]
      rcases c with c | c | c | c <;> rw [c]
      · rw [if_neg (by decide), if_neg (by decide), zs_in, if_pos (by decide), zl_in (by omega), zs_in, zP_ret, v15, up_eq]
        exact ⟨by show (0 : Int) = 0 * v; omega, by show -v = -1 * v; omega, fin _ _⟩
      · rw [if_neg (by decide), if_neg (by decide), zs_in, if_neg (by decide), if_pos (by decide), zs_in, zP_ret, v15, up_eq]
        exact ⟨by show (0 : Int) = 0 * v; omega, by show v = 1 * v; omega, fin _ _⟩
      · rw [if_pos (by decide), zl_in (by omega), zs_in, if_neg (by decide), if_neg (by decide), zs_in, zP_ret, v15, up_eq]
        exact ⟨by show -v = -1 * v; omega, by show (0 : Int) = 0 * v; omega, fin _ _⟩
      · rw [if_neg (by decide), if_pos (by decide), zs_in, if_neg (by decide), if_neg (by decide), zs_in, zP_ret, v15, up_eq]
        exact ⟨by show v = 1 * v; omega, by show (0 : Int) = 0 * v; omega, fin _ _⟩
    by_cases f0 : fW t n i = 0
    · have w := fW_0 hn f0
      have im2 := tK_m hm (show i + 1 ≤ m by omega) (show tK t n (i + 1) ≠ 12 by omega)
      rw [if_pos f0, zb_some]
      refine zP_mono (tail _ _ (by omega) (by omega)) (fun _ U hU => ?_)
      obtain ⟨u1, u2, f⟩ := hU
      have st2 := st.at (j := i + 2) im2
      refine ⟨fun z => absurd f0 z, fun _ => ⟨?_, ?_, u1, u2⟩, zFr.trans (zfr_upO (zfr_upO zFr.rf (by decide)) (by decide)) (zFr.mono (by decide) (by decide) f)⟩
      · exact st2.fr (zFr.mono (by decide) (by decide) f)
      · rw [f 51 8 (by decide) (by decide), up_same, if_neg (by decide), up_same, if_neg (by decide)]
        exact h0
    · rw [if_neg f0, zb_some]
      refine zP_mono (tail _ _ (by decide) (by decide)) (fun _ U hU => ?_)
      obtain ⟨u1, u2, f⟩ := hU
      refine ⟨fun _ => ?_, fun z => absurd z f0, zFr.trans (zfr_upO (zfr_upO zFr.rf (by decide)) (by decide)) (zFr.mono (by decide) (by decide) f)⟩
      rw [f 51 8 (by decide) (by decide), up_eq]
  · have f1 : fW t n i = 1 + 16 * tP t n i := by
      unfold fW
      rw [if_pos (by omega)]
    have pb := tP_b (t := t) (i := i) hn
    rw [if_neg g, if_neg (by decide), m_wrong h hm1 hn h0 (by decide), zb_some, zP_ret, up_eq, f1]
    exact ⟨fun _ => rfl, fun z => by omega, zfr_upO zFr.rf (by decide)⟩
end ML
