/-! tokens in a row: what either takes of them -/
def tK (t : Int → Int) (n : Int) (i : Nat) : Int := kKi t n (tP t n i)
def tV (t : Int → Int) (n : Int) (i : Nat) : Int := kVa t n (tP t n i)
def fN (t : Int → Int) (n lo hi : Int) (i : Nat) : Int := if tK t n i = 8 then (if tV t n i < lo ∨ hi < tV t n i then 4 + 16 * tP t n i else 0) else 1 + 16 * tP t n i
def fW (t : Int → Int) (n : Int) (i : Nat) : Int := if 3 < tK t n i then 1 + 16 * tP t n i else fN t n 0 16 (i + 1)
def nW (t : Int → Int) (n : Int) : Nat → Nat → Nat
  | 0, _ => 0
  | f + 1, i => if tK t n i = 11 ∨ fW t n i ≠ 0 then 0 else nW t n f (i + 2) + 1
section TN
variable {t : Int → Int} {n : Int} {m : Nat}
theorem kKi_r {p : Int} : 0 ≤ kKi t n p ∧ kKi t n p ≤ 13 := by
  unfold kKi
  have := kWo_r (v := wVa t p (kEn t n p - p).toNat)
  repeat' split
  all_goals omega
theorem kWo_inv {v : Int} (h : kWo v ≤ 7) : v = wl (rW (kWo v).toNat) := by
  have w := rW_v
  unfold kWo at h ⊢
  repeat' split at h
  all_goals first | omega | skip
  all_goals simp_all
/-- how many signs a word takes -/
theorem kLen {p : Int} (h0 : 0 ≤ p) (hn : n ≤ 1000) (hk : kKi t n p ≤ 7) : p < n ∧ (kKi t n p ≤ 3 → p + 2 ≤ kEn t n p) ∧ (4 ≤ kKi t n p → p + 3 ≤ kEn t n p) := by
  by_cases g : n ≤ p
  · unfold kKi at hk
    rw [if_pos g] at hk
    omega
  · have l : kLe (t p) = true := by
      by_cases l : kLe (t p) = true
      · exact l
      · unfold kKi at hk
        rw [if_neg g, if_neg l] at hk
        repeat' split at hk
        all_goals omega
    have e : kKi t n p = if kEn t n p - p ≤ 8 then kWo (wVa t p (kEn t n p - p).toNat) else 13 := by
      unfold kKi
      rw [if_neg g, if_pos l]
    have ke : kEn t n p = scn kLe t n 1001 p := by
      unfold kEn
      rw [if_neg g, if_pos l]
    by_cases g8 : kEn t n p - p ≤ 8
    · rw [if_pos g8] at e
      rw [e] at hk
      have wr := kWo_r (v := wVa t p (kEn t n p - p).toNat)
      have inv := kWo_inv hk
      rw [← e] at inv hk wr
      obtain ⟨x1, x2, x3⟩ := scn_sp (b := kLe) (t := t) (n := n) 1001 p (by omega)
      have d := (wl_dec (rW (kKi t n p).toNat) (rW_r _ (by omega)) (kEn t n p - p).toNat (fun j hj => kLe_t.mp (x2 _ (by omega) (by omega)).2)).mp inv
      have c : kKi t n p = 0 ∨ kKi t n p = 1 ∨ kKi t n p = 2 ∨ kKi t n p = 3 ∨ kKi t n p = 4 ∨ kKi t n p = 5 ∨ kKi t n p = 6 ∨ kKi t n p = 7 := by omega
      refine ⟨by omega, ?_⟩
      have d1 := d.1
      rcases c with c | c | c | c | c | c | c | c <;> rw [c] at d1 ⊢
      · have y : (rW (0 : Int).toNat).length = 2 := rfl
        omega
      · have y : (rW (1 : Int).toNat).length = 4 := rfl
        omega
      · have y : (rW (2 : Int).toNat).length = 4 := rfl
        omega
      · have y : (rW (3 : Int).toNat).length = 5 := rfl
        omega
      · have y : (rW (4 : Int).toNat).length = 4 := rfl
        omega
      · have y : (rW (5 : Int).toNat).length = 3 := rfl
        omega
      · have y : (rW (6 : Int).toNat).length = 5 := rfl
        omega
      · have y : (rW (7 : Int).toNat).length = 6 := rfl
        omega
    · rw [if_neg g8] at e
      omega
/-- a number's value, by its signs -/
theorem kVal {p : Int} (h0 : 0 ≤ p) (hn : n ≤ 1000) (hk : kKi t n p = 8) : p < n ∧ (0 ≤ kVa t n p ∧ kVa t n p ≤ 99) ∧ (kEn t n p = p + 1 ∧ kVa t n p ≤ 9 ∨ kEn t n p = p + 2) := by
  by_cases g : n ≤ p
  · unfold kKi at hk
    rw [if_pos g] at hk
    omega
  · by_cases l : kLe (t p) = true
    · unfold kKi at hk
      rw [if_neg g, if_pos l] at hk
      have := kWo_r (v := wVa t p (kEn t n p - p).toNat)
      split at hk <;> omega
    · have d : kDi (t p) = true := by
        by_cases d : kDi (t p) = true
        · exact d
        · unfold kKi at hk
          rw [if_neg g, if_neg l, if_neg d] at hk
          repeat' split at hk
          all_goals omega
      have ke : kEn t n p = scn kDi t n 1001 p := by
        unfold kEn
        rw [if_neg g, if_neg l, if_pos d]
      have er := kEn_r (t := t) (n := n) (p := p) h0 (by omega) hn
      obtain ⟨x1, x2, x3⟩ := scn_sp (b := kDi) (t := t) (n := n) 1001 p (by omega)
      rw [← ke] at x1 x2 x3
      have le : kEn t n p - p ≤ 2 := by
        unfold kKi at hk
        rw [if_neg g, if_neg l, if_pos d] at hk
        split at hk <;> omega
      have d0 := kDi_t.mp d
      have c : kEn t n p - p = 1 ∨ kEn t n p - p = 2 := by omega
      unfold kVa
      rcases c with c | c
      · rw [c]
        have e : dVa t p (1 : Int).toNat = 10 * 0 + t (p + 0) - 48 := rfl
        rw [Int.add_zero] at e
        rw [e]
        omega
      · rw [c]
        have d1 := kDi_t.mp (x2 (p + 1) (by omega) (by omega)).2
        have e : dVa t p (2 : Int).toNat = 10 * (10 * 0 + t (p + 0) - 48) + t (p + 1) - 48 := rfl
        rw [Int.add_zero] at e
        rw [e]
        omega
/-- the class has the i-th token ready -/
def cSt (t : Int → Int) (n : Int) (S : HS) (i : Nat) : Prop := tOk S ∧ S 41 = t ∧ S 40 1 = n ∧ tAt S (tP t n i)
abbrev cO : List (Nat × Int) := [(40, 2), (40, 3), (40, 4), (40, 5), (42, 3), (42, 5)]
theorem cSt.fr {S T : HS} {i : Nat} (h : cSt t n S i) (f : zFr [43, 44] [(42, 3), (42, 4), (42, 5)] S T) : cSt t n T i := by
  obtain ⟨h1, h2, h3, h4⟩ := h
  have e41 : T 41 = S 41 := f.cell 41 (by decide) (by decide)
  have e1 : T 40 1 = S 40 1 := f 40 1 (by decide) (by decide)
  have e2 : T 40 2 = S 40 2 := f 40 2 (by decide) (by decide)
  have e3 : T 40 3 = S 40 3 := f 40 3 (by decide) (by decide)
  have e4 : T 40 4 = S 40 4 := f 40 4 (by decide) (by decide)
  have e5 : T 40 5 = S 40 5 := f 40 5 (by decide) (by decide)
  refine ⟨?_, by rw [e41, h2], by rw [e1, h3], ?_⟩
  · unfold tOk
    rw [e41, e1]
    exact h1
  · unfold tAt
    rw [e41, e1, e2, e3, e4, e5]
    exact h4
theorem cSt.k {S : HS} {i : Nat} (h : cSt t n S i) : S 40 4 = tP t n i ∧ S 40 3 = tK t n i ∧ (tK t n i = 8 → S 40 5 = tV t n i) ∧ (0 ≤ n ∧ n ≤ 1000) := by
  obtain ⟨h1, h2, h3, h4⟩ := h
  unfold tAt at h4
  rw [h2, h3] at h4
  have := h1.1
  exact ⟨h4.1, h4.2.2.1, h4.2.2.2, by omega⟩
theorem e_nx {S : HS} {i : Nat} (h : cSt t n S i) : zP (M_X9_next S) (fun _ T => cSt t n T (i + 1) ∧ zFr [] [(40, 2), (40, 3), (40, 4), (40, 5)] S T) := by
  obtain ⟨h1, h2, h3, h4⟩ := h
  have hn := h1.1
  have e2 : S 40 2 = kEn t n (tP t n i) := by
    unfold tAt at h4
    rw [h2, h3] at h4
    exact h4.2.1
  have a := tP_r (t := t) (n := n) (by omega) (by omega) i
  have b := kEn_r (t := t) (n := n) (p := tP t n i) a.1 a.2.1 (by omega)
  refine zP_mono (e_next h1 (by omega)) (fun _ T hT => ?_)
  obtain ⟨t1, f⟩ := hT
  obtain ⟨k1, k2, k3⟩ := h1.fr f (by decide)
  refine ⟨⟨k1, by rw [k3, h2], by rw [k2, h3], ?_⟩, f⟩
  rw [h2, h3, e2] at t1
  exact t1
theorem e_put7 {S : HS} {v : Int} (h : 0 ≤ S 42 3 ∧ S 42 3 < 1000) : M_X7_put v S = some (0, up (up S 43 (S 42 3) v) 42 3 (S 42 3 + 1)) := by
  unfold M_X7_put
  rw [if_neg (by omega), zg_in h, zs_in, up_cell _ (show (42 : Nat) ≠ 43 by decide), zl_in (by omega), zs_in]
theorem e_putAny {S : HS} {v : Int} (h : 0 ≤ S 42 3) : zP (M_X7_put v S) (fun _ T => T 42 5 = S 42 5 ∧ 0 ≤ T 42 3) := by
  by_cases g : S 42 3 < 1000
  · rw [e_put7 ⟨h, g⟩, zP_ret]
    refine ⟨?_, ?_⟩
    · rw [up_same, if_neg (by decide), up_cell _ (by decide)]
    · rw [up_eq]
      omega
  · unfold M_X7_put
    rw [if_pos (by omega), zP_ret]
    exact ⟨rfl, h⟩
theorem e_tell {S : HS} {a : Int} (h0 : S 42 5 = 0) (ha : 0 ≤ a ∧ a ≤ 9) (hp : 0 ≤ S 40 4 ∧ S 40 4 ≤ 1000) : M_X7_tellFault a S = some (0, up S 42 5 (a + 16 * S 40 4)) := by
  unfold M_X7_tellFault
  rw [if_pos h0, zl_in (by omega), zs_in]
theorem e_tellF {S : HS} {a : Int} (h0 : S 42 5 ≠ 0) : M_X7_tellFault a S = some (0, S) := by
  unfold M_X7_tellFault
  rw [if_neg h0]
theorem e_numF {S : HS} {lo hi : Int} (h0 : S 42 5 ≠ 0) : M_X7_readNumber lo hi S = some (0, S) := by
  unfold M_X7_readNumber J_X7_readNumber_42 J_X7_readNumber_47
  rw [e_tellF h0, zb_some, e_tellF h0, zb_some, if_neg h0]
  repeat' split
  all_goals rfl
theorem e_wayF {S : HS} (h0 : S 42 5 ≠ 0) : M_X7_readWay S = some (0, S) := by
  unfold M_X7_readWay J_X7_readWay_16
  rw [e_tellF h0, zb_some, if_neg h0]
  split <;> rfl
theorem e_expF {S : HS} {k : Int} (h0 : S 42 5 ≠ 0) : M_X7_expect k S = some (0, S) := by
  unfold M_X7_expect J_X7_expect_16
  rw [e_tellF h0, zb_some, if_neg h0]
  split <;> rfl
theorem tP_b {i : Nat} (hn : 0 ≤ n ∧ n ≤ 1000) : 0 ≤ tP t n i ∧ tP t n i ≤ n := by
  have := tP_r (t := t) hn.1 hn.2 i
  omega
theorem e_num1 {S : HS} {i : Nat} {lo hi : Int} (h : cSt t n S i) (h0 : S 42 5 = 0) (hf : fN t n lo hi i ≠ 0) : M_X7_readNumber lo hi S = some (0, up S 42 5 (fN t n lo hi i)) := by
  obtain ⟨k1, k2, k3, hn⟩ := h.k
  have pb := tP_b (t := t) (i := i) hn
  have uf : ∀ v : Int, up S 42 5 v 42 5 = v := fun v => up_eq ..
  unfold fN at hf ⊢
  unfold M_X7_readNumber J_X7_readNumber_42 J_X7_readNumber_47
  rw [k2, e_tell h0 (by decide) (by omega), zb_some, e_tell h0 (by decide) (by omega), zb_some, uf, uf, k1]
  by_cases g : tK t n i = 8
  · rw [if_pos g] at hf ⊢
    rw [if_pos g, k3 g]
    by_cases g2 : tV t n i < lo ∨ hi < tV t n i
    · rw [if_pos g2, if_neg (show ¬ 4 + 16 * tP t n i = 0 by omega)]
      by_cases g3 : tV t n i < lo
      · rw [if_pos g3]
      · rw [if_neg g3, if_neg (by omega)]
    · rw [if_neg g2] at hf
      exact absurd rfl hf
  · rw [if_neg g, if_neg g, if_neg (by omega)]
theorem e_num0 {S : HS} {i : Nat} {lo hi : Int} (h : cSt t n S i) (h0 : S 42 5 = 0) (hf : fN t n lo hi i = 0) (hs : 0 ≤ S 42 3 ∧ S 42 3 < 1000) : zP (M_X7_readNumber lo hi S) (fun _ T => cSt t n T (i + 1) ∧ T 42 5 = 0 ∧ T 42 3 = S 42 3 + 1 ∧ (∀ q : Int, T 43 q = if q = S 42 3 then tV t n i else S 43 q) ∧ zFr [43] cO S T) := by
  obtain ⟨k1, k2, k3, hn⟩ := h.k
  have pb := tP_b (t := t) (i := i) hn
  unfold fN at hf
  have g : tK t n i = 8 := by
    by_cases g : tK t n i = 8
    · exact g
    · rw [if_neg g] at hf
      omega
  rw [if_pos g] at hf
  have g2 : ¬ (tV t n i < lo ∨ hi < tV t n i) := by
    intro g2
    rw [if_pos g2] at hf
    omega
  unfold M_X7_readNumber J_X7_readNumber_47
  rw [k2, if_pos g, k3 g, if_neg (by omega), if_pos (by omega), if_pos h0, e_put7 hs, zb_some, zP_zb]
  have fU : zFr [43, 44] [(42, 3), (42, 4), (42, 5)] S (up (up S 43 (S 42 3) (tV t n i)) 42 3 (S 42 3 + 1)) := zfr_upO (zfr_up zFr.rf (by decide)) (by decide)
  refine zP_mono (e_nx (h.fr fU)) (fun _ T hT => ?_)
  obtain ⟨c, f⟩ := hT
  rw [zP_ret]
  refine ⟨c, ?_, ?_, fun q => ?_, zFr.trans (zfr_upO (zfr_up zFr.rf (by decide)) (by decide)) (zFr.mono (by decide) (by decide) f)⟩
  · rw [f 42 5 (by decide) (by decide), up_same, if_neg (by decide), up_cell _ (by decide), h0]
  · rw [f 42 3 (by decide) (by decide), up_eq]
  · rw [f.cell 43 (by decide) (by decide), up_cell _ (by decide), up_same]
theorem e_way1 {S : HS} {i : Nat} (h : cSt t n S i) (h0 : S 42 5 = 0) (hf : fW t n i ≠ 0) (hs : 0 ≤ S 42 3 ∧ (tK t n i ≤ 3 → S 42 3 < 1000)) : zP (M_X7_readWay S) (fun _ T => T 42 5 = fW t n i ∧ 0 ≤ T 42 3) := by
  obtain ⟨k1, k2, k3, hn⟩ := h.k
  have pb := tP_b (t := t) (i := i) hn
  unfold fW at hf ⊢
  unfold M_X7_readWay J_X7_readWay_16
  rw [k2]
  by_cases g : 3 < tK t n i
  · rw [if_pos g, if_neg (by omega), e_tell h0 (by decide) (by omega), zb_some, up_eq, k1, if_neg (by omega), zP_ret, up_eq]
    refine ⟨rfl, ?_⟩
    rw [up_same, if_neg (by decide)]
    exact hs.1
  · rw [if_neg g] at hf ⊢
    rw [if_pos (by omega), if_pos h0, e_put7 ⟨hs.1, hs.2 (by omega)⟩, zb_some, zP_zb]
    have fU : zFr [43, 44] [(42, 3), (42, 4), (42, 5)] S (up (up S 43 (S 42 3) (tK t n i)) 42 3 (S 42 3 + 1)) := zfr_upO (zfr_up zFr.rf (by decide)) (by decide)
    refine zP_mono (e_nx (h.fr fU)) (fun _ T hT => ?_)
    obtain ⟨c, f⟩ := hT
    have t5 : T 42 5 = 0 := by rw [f 42 5 (by decide) (by decide), up_same, if_neg (by decide), up_cell _ (by decide), h0]
    have t3 : T 42 3 = S 42 3 + 1 := by rw [f 42 3 (by decide) (by decide), up_eq]
    rw [e_num1 c t5 hf, zb_some, zP_ret, up_eq]
    refine ⟨rfl, ?_⟩
    rw [up_same, if_neg (by decide), t3]
    omega
theorem e_way0 {S : HS} {i : Nat} (h : cSt t n S i) (h0 : S 42 5 = 0) (hf : fW t n i = 0) (hs : 0 ≤ S 42 3 ∧ S 42 3 + 1 < 1000) : zP (M_X7_readWay S) (fun _ T => cSt t n T (i + 2) ∧ T 42 5 = 0 ∧ T 42 3 = S 42 3 + 2 ∧ (∀ q : Int, T 43 q = if q = S 42 3 + 1 then tV t n (i + 1) else if q = S 42 3 then tK t n i else S 43 q) ∧ zFr [43] cO S T) := by
  obtain ⟨k1, k2, k3, hn⟩ := h.k
  have pb := tP_b (t := t) (i := i) hn
  unfold fW at hf
  have g : ¬ 3 < tK t n i := by
    intro g
    rw [if_pos g] at hf
    omega
  rw [if_neg g] at hf
  unfold M_X7_readWay J_X7_readWay_16
  rw [k2, if_pos (by omega), if_pos h0, e_put7 (by omega), zb_some, zP_zb]
  have fU : zFr [43, 44] [(42, 3), (42, 4), (42, 5)] S (up (up S 43 (S 42 3) (tK t n i)) 42 3 (S 42 3 + 1)) := zfr_upO (zfr_up zFr.rf (by decide)) (by decide)
  refine zP_mono (e_nx (h.fr fU)) (fun _ T hT => ?_)
  obtain ⟨c, f⟩ := hT
  have t5 : T 42 5 = 0 := by rw [f 42 5 (by decide) (by decide), up_same, if_neg (by decide), up_cell _ (by decide), h0]
  have t3 : T 42 3 = S 42 3 + 1 := by rw [f 42 3 (by decide) (by decide), up_eq]
  have t43 : ∀ q : Int, T 43 q = if q = S 42 3 then tK t n i else S 43 q := fun q => by
    rw [f.cell 43 (by decide) (by decide), up_cell _ (by decide), up_same]
  rw [zP_zb]
  refine zP_mono (e_num0 c t5 hf (by omega)) (fun _ U hU => ?_)
  obtain ⟨u1, u2, u3, u4, u5⟩ := hU
  rw [zP_ret]
  refine ⟨u1, u2, by omega, fun q => ?_, zFr.trans (zFr.trans (zfr_upO (zfr_up zFr.rf (by decide)) (by decide)) (zFr.mono (by decide) (by decide) f)) u5⟩
  rw [u4, t3, t43]
theorem e_exp1 {S : HS} {i : Nat} {k : Int} (h : cSt t n S i) (h0 : S 42 5 = 0) (hk : tK t n i ≠ k) : M_X7_expect k S = some (0, up S 42 5 (1 + 16 * tP t n i)) := by
  obtain ⟨k1, k2, k3, hn⟩ := h.k
  have pb := tP_b (t := t) (i := i) hn
  unfold M_X7_expect J_X7_expect_16
  rw [k2, if_neg hk, e_tell h0 (by decide) (by omega), zb_some, up_eq, k1, if_neg (by omega)]
theorem e_exp0 {S : HS} {i : Nat} {k : Int} (h : cSt t n S i) (h0 : S 42 5 = 0) (hk : tK t n i = k) : zP (M_X7_expect k S) (fun _ T => cSt t n T (i + 1) ∧ zFr [] [(40, 2), (40, 3), (40, 4), (40, 5)] S T) := by
  obtain ⟨k1, k2, k3, hn⟩ := h.k
  unfold M_X7_expect J_X7_expect_16
  rw [k2, if_pos hk, if_pos h0, zP_zb]
  refine zP_mono (e_nx h) (fun _ T hT => ?_)
  rw [zP_ret]
  exact hT
/-- how far the tokens run -/
theorem tP_next {i : Nat} (hn : 0 ≤ n ∧ n ≤ 1000) : (tK t n i ≤ 3 → tP t n i + 2 ≤ tP t n (i + 1)) ∧ (4 ≤ tK t n i → tK t n i ≤ 7 → tP t n i + 3 ≤ tP t n (i + 1)) ∧ (tK t n i ≠ 12 → tP t n i + 1 ≤ tP t n (i + 1) ∧ tP t n i < n) ∧ (tK t n i = 8 → (0 ≤ tV t n i ∧ tV t n i ≤ 99) ∧ (tV t n i ≤ 16 → tV t n i ≤ 8 + 4 * (tP t n (i + 1) - tP t n i))) := by
  have a := tP_r (t := t) hn.1 hn.2 i
  have b := kEn_r (t := t) (n := n) (p := tP t n i) a.1 a.2.1 hn.2
  have c := tP_s (t := t) hn.1 hn.2 i
  unfold tK tV
  refine ⟨fun h => ?_, fun h1 h2 => ?_, fun h => ?_, fun h => ?_⟩
  · have := kLen a.1 hn.2 (show kKi t n (tP t n i) ≤ 7 by omega)
    have := this.2.1 h
    omega
  · have := kLen a.1 hn.2 (show kKi t n (tP t n i) ≤ 7 by omega)
    have := this.2.2 h1
    omega
  · have lt : tP t n i < n := by
      by_cases g : n ≤ tP t n i
      · exact absurd (by unfold kKi; rw [if_pos g]) h
      · omega
    have := b.2.2 lt
    omega
  · have v := kVal a.1 hn.2 h
    refine ⟨v.2.1, fun g => ?_⟩
    rcases v.2.2 with x | x <;> omega
end TN
