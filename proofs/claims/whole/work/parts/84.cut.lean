/-! tokens: the reference cuts them -/
def mTk (t : Int → Int) (n so va p : Int) : Prop := ((so = 1 ∧ va = 793) ↔ kKi t n p = 0) ∧ ((so = 1 ∧ va = 224012) ↔ kKi t n p = 1) ∧ ((so = 1 ∧ va = 614923) ↔ kKi t n p = 2) ∧ ((so = 1 ∧ va = 34200674) ↔ kKi t n p = 3) ∧ ((so = 1 ∧ va = 812503) ↔ kKi t n p = 4) ∧ ((so = 1 ∧ va = 25220) ↔ kKi t n p = 5) ∧ ((so = 1 ∧ va = 2230448) ↔ kKi t n p = 6) ∧ ((so = 1 ∧ va = 919275859) ↔ kKi t n p = 7) ∧ (so = 2 ↔ kKi t n p = 8) ∧ (kKi t n p = 8 → va = kVa t n p) ∧ ((so = 3 ∧ va = 40) ↔ kKi t n p = 9) ∧ ((so = 3 ∧ va = 41) ↔ kKi t n p = 10) ∧ ((so = 3 ∧ va = 59) ↔ kKi t n p = 11) ∧ (so = 0 ↔ kKi t n p = 12)
def bWa : Nat → Int
  | 0 => 0
  | k + 1 => 37 * bWa k + 26
theorem bWa_8 : ∀ k : Nat, k < 9 → bWa k ≤ 4000000000000 := by decide
theorem wVa_b {t : Int → Int} {p : Int} (k : Nat) (h : ∀ j : Nat, j < k → 97 ≤ t (p + j) ∧ t (p + j) ≤ 122) : 0 ≤ wVa t p k ∧ wVa t p k ≤ bWa k := by
  induction k with
  | zero => exact ⟨Int.le_refl _, Int.le_refl _⟩
  | succ k ih =>
    have i := ih (fun j hj => h j (by omega))
    have c := h k (by omega)
    unfold wVa bWa
    omega
theorem mTk_let {t : Int → Int} {n p so va : Int} (h1 : p < n) (h2 : kLe (t p) = true) (hs : so = if kEn t n p - p ≤ 8 then 1 else 4) (hv : kEn t n p - p ≤ 8 → va = wVa t p (kEn t n p - p).toNat) : mTk t n so va p := by
  have kk : kKi t n p = if kEn t n p - p ≤ 8 then kWo (wVa t p (kEn t n p - p).toNat) else 13 := by
    unfold kKi
    rw [if_neg (by omega), if_pos h2]
  by_cases g : kEn t n p - p ≤ 8
  · rw [if_pos g] at kk hs
    rw [← hv g] at kk
    unfold mTk
    rw [kk, hs]
    unfold kWo
    refine ⟨?_, ?_, ?_, ?_, ?_, ?_, ?_, ?_, ?_, ?_, ?_, ?_, ?_, ?_⟩
    all_goals (repeat' split) <;> omega
  · rw [if_neg g] at kk hs
    unfold mTk
    rw [kk, hs]
    refine ⟨?_, ?_, ?_, ?_, ?_, ?_, ?_, ?_, ?_, ?_, ?_, ?_, ?_, ?_⟩
    all_goals omega
theorem mTk_dig {t : Int → Int} {n p so va : Int} (h1 : p < n) (h2 : ¬ kLe (t p) = true) (h3 : kDi (t p) = true) (hs : so = if kEn t n p - p ≤ 2 then 2 else 4) (hv : kEn t n p - p ≤ 2 → va = kVa t n p) : mTk t n so va p := by
  have kk : kKi t n p = if kEn t n p - p ≤ 2 then 8 else 13 := by
    unfold kKi
    rw [if_neg (by omega), if_neg h2, if_pos h3]
  by_cases g : kEn t n p - p ≤ 2
  · rw [if_pos g] at kk hs
    have e := hv g
    unfold mTk
    rw [kk, hs]
    refine ⟨?_, ?_, ?_, ?_, ?_, ?_, ?_, ?_, ?_, ?_, ?_, ?_, ?_, ?_⟩
    all_goals omega
  · rw [if_neg g] at kk hs
    unfold mTk
    rw [kk, hs]
    refine ⟨?_, ?_, ?_, ?_, ?_, ?_, ?_, ?_, ?_, ?_, ?_, ?_, ?_, ?_⟩
    all_goals omega
theorem mTk_sig {t : Int → Int} {n p so va : Int} (h1 : p < n) (h2 : ¬ kLe (t p) = true) (h3 : ¬ kDi (t p) = true) (hs : so = if t p = 40 ∨ t p = 41 ∨ t p = 59 then 3 else 4) (hv : va = t p) : mTk t n so va p := by
  have kk : kKi t n p = if t p = 40 then 9 else if t p = 41 then 10 else if t p = 59 then 11 else 13 := by
    unfold kKi
    rw [if_neg (by omega), if_neg h2, if_neg h3]
  unfold mTk
  rw [kk, hs, hv]
  by_cases a : t p = 40
  · rw [if_pos a, if_pos (Or.inl a)]
    refine ⟨?_, ?_, ?_, ?_, ?_, ?_, ?_, ?_, ?_, ?_, ?_, ?_, ?_, ?_⟩
    all_goals omega
  · rw [if_neg a]
    by_cases b : t p = 41
    · rw [if_pos b, if_pos (Or.inr (Or.inl b))]
      refine ⟨?_, ?_, ?_, ?_, ?_, ?_, ?_, ?_, ?_, ?_, ?_, ?_, ?_, ?_⟩
      all_goals omega
    · rw [if_neg b]
      by_cases c : t p = 59
      · rw [if_pos c, if_pos (Or.inr (Or.inr c))]
        refine ⟨?_, ?_, ?_, ?_, ?_, ?_, ?_, ?_, ?_, ?_, ?_, ?_, ?_, ?_⟩
        all_goals omega
      · rw [if_neg c, if_neg (by omega)]
        refine ⟨?_, ?_, ?_, ?_, ?_, ?_, ?_, ?_, ?_, ?_, ?_, ?_, ?_, ?_⟩
        all_goals omega
theorem mTk_end {t : Int → Int} {n p so va : Int} (h1 : n ≤ p) (hs : so = 0) : mTk t n so va p := by
  have kk : kKi t n p = 12 := by
    unfold kKi
    rw [if_pos h1]
  unfold mTk
  rw [kk, hs]
  refine ⟨?_, ?_, ?_, ?_, ?_, ?_, ?_, ?_, ?_, ?_, ?_, ?_, ?_, ?_⟩
  all_goals omega
section CU
variable {S : HS}
theorem m_isLetter {c : Int} : M_X12_isLetter c S = some (if kLe c = true then 1 else 0, S) := by
  unfold M_X12_isLetter
  by_cases a : c < 97
  · rw [if_pos a, if_neg (fun q => by have := kLe_t.mp q; omega)]
  · rw [if_neg a]
    by_cases b : 122 < c
    · rw [if_pos b, if_neg (fun q => by have := kLe_t.mp q; omega)]
    · rw [if_neg b, if_pos (kLe_t.mpr (by omega))]
theorem m_isDigit {c : Int} : M_X12_isDigit c S = some (if kDi c = true then 1 else 0, S) := by
  unfold M_X12_isDigit
  by_cases a : c < 48
  · rw [if_pos a, if_neg (fun q => by have := kDi_t.mp q; omega)]
  · rw [if_neg a]
    by_cases b : 57 < c
    · rw [if_pos b, if_neg (fun q => by have := kDi_t.mp q; omega)]
    · rw [if_neg b, if_pos (kDi_t.mpr (by omega))]
theorem m_isSignOf {c : Int} : M_X12_isSignOf c S = some (if c = 40 ∨ c = 41 ∨ c = 59 then 1 else 0, S) := by
  unfold M_X12_isSignOf J_X12_isSignOf_18
  by_cases a : c = 40
  · rw [if_pos a, if_pos (Or.inl a)]
  · rw [if_neg a]
    by_cases b : c = 41
    · rw [if_pos b, if_pos (Or.inr (Or.inl b))]
    · rw [if_neg b]
      by_cases d : c = 59
      · rw [if_pos d, if_pos (Or.inr (Or.inr d))]
      · rw [if_neg d, if_neg (by omega)]
theorem m_letters {p a1 : Int} {k : Int → Int → HS → zO2} {Q : Int → HS → Prop} (h3 : 0 ≤ S 51 3 ∧ S 51 3 ≤ 1000) (p0 : 0 ≤ p) (p1 : p < S 51 3) (hk : ∀ v : Int, (scn kLe (S 52) (S 51 3) 1001 p - p ≤ 8 → v = wVa (S 52) p (scn kLe (S 52) (S 51 3) 1001 p - p).toNat) → (0 ≤ v ∧ v ≤ 4000000000000) → zP (k (scn kLe (S 52) (S 51 3) 1001 p) v S) Q) : zP (L_X12_cutAll_70 k a1 p zBig p 0 S) Q := by
  refine zloopM (F := fun n (y : Int × Int × HS) => L_X12_cutAll_70 k a1 p n y.1 y.2.1 y.2.2) (fun y => y.2.2 = S ∧ (p ≤ y.1 ∧ y.1 ≤ S 51 3) ∧ (∀ i : Int, p ≤ i → i < y.1 → kLe (S 52 i) = true) ∧ y.2.1 = wVa (S 52) p (min (y.1 - p) 8).toNat) (fun y => (S 51 3 - y.1).toNat) (fun n y hJ ih => ?_) zBig (p, 0, S) ⟨rfl, ⟨Int.le_refl _, by show p ≤ S 51 3; omega⟩, fun i a b => by have b' : i < p := b; omega, by show (0 : Int) = wVa (S 52) p (min (p - p) 8).toNat; rw [show (min (p - p) 8).toNat = 0 by omega]; rfl⟩ (by show (S 51 3 - p).toNat < zBig; exact zbig (by omega))
  obtain ⟨a, v, T⟩ := y
  obtain ⟨eS, ha, hl, hv⟩ := hJ
  have eS' : T = S := eS
  subst eS'
  simp only at ha hl hv ih
  show zP (L_X12_cutAll_70 k a1 p (n + 1) a v T) Q
  have wb := wVa_b (t := T 52) (p := p) (min (a - p) 8).toNat (fun j hj => kLe_t.mp (hl _ (by omega) (by omega)))
  have w8 := bWa_8 (min (a - p) 8).toNat (by omega)
  have fin : ¬ (a < T 51 3 ∧ kLe (T 52 a) = true) → zP (k a v T) Q := by
    intro hx
    have e := scn_eq (b := kLe) (t := T 52) (n := T 51 3) (r := a) hx 1001 p ha.1 (fun i i0 i1 => ⟨by omega, hl i i0 i1⟩) (by omega)
    have z := hk v
    rw [e] at z
    refine z (fun q => ?_) (by omega)
    rw [hv, show (min (a - p) 8) = a - p by omega]
  rw [L_X12_cutAll_70.eq_2]
  by_cases g : T 51 3 ≤ a
  · rw [if_pos g]
    exact fin (fun q => by omega)
  · rw [if_neg g, zg_in (by omega), m_isLetter, zb_some]
    by_cases g2 : kLe (T 52 a) = true
    · have lt := kLe_t.mp g2
      have nxt : ∀ i : Int, p ≤ i → i < a + 1 → kLe (T 52 i) = true := fun i i0 i1 => by
        by_cases e : i = a
        · rw [e]
          exact g2
        · exact hl i i0 (by omega)
      unfold J_X12_cutAll_121
      rw [zif1 g2, if_neg (by decide), zl_in (by omega)]
      by_cases g3 : 8 ≤ a - p
      · rw [if_pos g3, zl_in (by omega)]
        refine ih (a + 1, v, T) ⟨rfl, by show p ≤ a + 1 ∧ a + 1 ≤ T 51 3; omega, nxt, ?_⟩ (by show (T 51 3 - (a + 1)).toNat < (T 51 3 - a).toNat; omega)
        show v = wVa (T 52) p (min (a + 1 - p) 8).toNat
        rw [hv, show (min (a + 1 - p) 8) = min (a - p) 8 by omega]
      · have w7 := bWa_8 (min (a - p) 8).toNat (by omega)
        unfold M_X12_rank
        rw [if_neg g3, zg_in (by omega), m_isLetter, zb_some, zif1 g2, if_neg (by decide), zl_in (by omega), zb_some, zl6_in (by omega), zl_in (by omega)]
        refine ih (a + 1, _, T) ⟨rfl, by show p ≤ a + 1 ∧ a + 1 ≤ T 51 3; omega, nxt, ?_⟩ (by show (T 51 3 - (a + 1)).toNat < (T 51 3 - a).toNat; omega)
        show 37 * v + (T 52 a - 96) = wVa (T 52) p (min (a + 1 - p) 8).toNat
        rw [show (min (a + 1 - p) 8).toNat = (min (a - p) 8).toNat + 1 by omega, wVa, hv, show p + ((min (a - p) 8).toNat : Int) = a by omega]
    · rw [zif0 g2, if_pos rfl]
      exact fin (fun q => g2 q.2)
theorem m_digs {p a1 : Int} {k : Int → Int → HS → zO2} {Q : Int → HS → Prop} (h3 : 0 ≤ S 51 3 ∧ S 51 3 ≤ 1000) (p0 : 0 ≤ p) (p1 : p < S 51 3) (hk : ∀ v : Int, (scn kDi (S 52) (S 51 3) 1001 p - p ≤ 2 → v = dVa (S 52) p (scn kDi (S 52) (S 51 3) 1001 p - p).toNat) → zP (k (scn kDi (S 52) (S 51 3) 1001 p) v S) Q) : zP (L_X12_cutAll_159 k a1 p zBig p 0 S) Q := by
  refine zloopM (F := fun n (y : Int × Int × HS) => L_X12_cutAll_159 k a1 p n y.1 y.2.1 y.2.2) (fun y => y.2.2 = S ∧ (p ≤ y.1 ∧ y.1 ≤ S 51 3) ∧ (∀ i : Int, p ≤ i → i < y.1 → kDi (S 52 i) = true) ∧ y.2.1 = dVa (S 52) p (min (y.1 - p) 2).toNat ∧ (0 ≤ y.2.1 ∧ y.2.1 ≤ 99) ∧ (y.1 - p ≤ 1 → y.2.1 ≤ 9)) (fun y => (S 51 3 - y.1).toNat) (fun n y hJ ih => ?_) zBig (p, 0, S) ⟨rfl, ⟨Int.le_refl _, by show p ≤ S 51 3; omega⟩, fun i a b => by have b' : i < p := b; omega, by show (0 : Int) = dVa (S 52) p (min (p - p) 2).toNat; rw [show (min (p - p) 2).toNat = 0 by omega]; rfl, by show (0 : Int) ≤ 0 ∧ (0 : Int) ≤ 99; decide, fun _ => by show (0 : Int) ≤ 9; decide⟩ (by show (S 51 3 - p).toNat < zBig; exact zbig (by omega))
  obtain ⟨a, v, T⟩ := y
  obtain ⟨eS, ha, hl, hv, hb, hb1⟩ := hJ
  have eS' : T = S := eS
  subst eS'
  simp only at ha hl hv hb hb1 ih
  show zP (L_X12_cutAll_159 k a1 p (n + 1) a v T) Q
  have fin : ¬ (a < T 51 3 ∧ kDi (T 52 a) = true) → zP (k a v T) Q := by
    intro hx
    have e := scn_eq (b := kDi) (t := T 52) (n := T 51 3) (r := a) hx 1001 p ha.1 (fun i i0 i1 => ⟨by omega, hl i i0 i1⟩) (by omega)
    have z := hk v
    rw [e] at z
    refine z (fun q => ?_)
    rw [hv, show (min (a - p) 2) = a - p by omega]
  rw [L_X12_cutAll_159.eq_2]
  by_cases g : T 51 3 ≤ a
  · rw [if_pos g]
    exact fin (fun q => by omega)
  · rw [if_neg g, zg_in (by omega), m_isDigit, zb_some]
    by_cases g2 : kDi (T 52 a) = true
    · have lt := kDi_t.mp g2
      have nxt : ∀ i : Int, p ≤ i → i < a + 1 → kDi (T 52 i) = true := fun i i0 i1 => by
        by_cases e : i = a
        · rw [e]
          exact g2
        · exact hl i i0 (by omega)
      unfold J_X12_cutAll_210
      rw [zif1 g2, if_neg (by decide), zl_in (by omega)]
      by_cases g3 : 2 ≤ a - p
      · rw [if_pos g3, zl_in (by omega)]
        refine ih (a + 1, v, T) ⟨rfl, by show p ≤ a + 1 ∧ a + 1 ≤ T 51 3; omega, nxt, ?_, hb, fun q => by have q' : a + 1 - p ≤ 1 := q; omega⟩ (by show (T 51 3 - (a + 1)).toNat < (T 51 3 - a).toNat; omega)
        show v = dVa (T 52) p (min (a + 1 - p) 2).toNat
        rw [hv, show (min (a + 1 - p) 2) = min (a - p) 2 by omega]
      · have v9 := hb1 (by omega)
        rw [if_neg g3, zg_in (by omega), zl6_in (by omega), zl_in (by omega)]
        refine ih (a + 1, _, T) ⟨rfl, by show p ≤ a + 1 ∧ a + 1 ≤ T 51 3; omega, nxt, ?_, by show 0 ≤ 10 * v + T 52 a - 48 ∧ 10 * v + T 52 a - 48 ≤ 99; omega, fun q => ?_⟩ (by show (T 51 3 - (a + 1)).toNat < (T 51 3 - a).toNat; omega)
        · show 10 * v + T 52 a - 48 = dVa (T 52) p (min (a + 1 - p) 2).toNat
          rw [show (min (a + 1 - p) 2).toNat = (min (a - p) 2).toNat + 1 by omega, dVa, hv, show p + ((min (a - p) 2).toNat : Int) = a by omega]
        · have q' : a + 1 - p ≤ 1 := q
          have e0 : v = 0 := by
            rw [hv, show (min (a - p) 2).toNat = 0 by omega]
            rfl
          show 10 * v + T 52 a - 48 ≤ 9
          omega
    · rw [zif0 g2, if_pos rfl]
      exact fin (fun q => g2 q.2)
theorem scn_one {b : Int → Bool} {t : Int → Int} {n a : Int} (ha : a < n) (h0 : 0 ≤ a) (hn : n ≤ 1000) (hb : b (t a) = true) : scn b t n 1001 a = scn b t n 1001 (a + 1) := by
  obtain ⟨x1, x2, x3⟩ := scn_sp (b := b) (t := t) (n := n) 1001 (a + 1) (by omega)
  have l := scn_le (b := b) (t := t) (n := n) (a := a + 1) 1001 (by omega) (by omega)
  refine scn_eq x3 1001 a (by omega) (fun i i0 i1 => ?_) (by omega)
  by_cases e : i = a
  · rw [e]
    exact ⟨ha, hb⟩
  · exact x2 i (by omega) i1
theorem scn_here {b : Int → Bool} {t : Int → Int} {n a : Int} (h : ¬ (a < n ∧ b (t a) = true)) : scn b t n 1001 a = a := scn_eq h 1001 a (Int.le_refl _) (fun i i0 i1 => by omega) (by omega)
/-- all tokens lie in the three arrays -/
def mTs (t : Int → Int) (n : Int) (T : HS) (m : Nat) : Prop := ∀ i : Nat, i < m → tP t n i < n ∧ T 54 i = tP t n i ∧ mTk t n (T 53 i) (T 55 i) (tP t n i)
theorem m_cutAll (h2 : 0 ≤ S 51 2 ∧ S 51 2 ≤ 1000) : zP (M_X12_cutAll S) (fun _ T => (∃ m : Nat, m ≤ 1000 ∧ tP (S 52) (S 51 2) m = S 51 2 ∧ mTs (S 52) (S 51 2) T m ∧ T 54 m = S 51 2 ∧ mTk (S 52) (S 51 2) (T 53 m) (T 55 m) (S 51 2)) ∧ T 51 7 = 0 ∧ T 51 8 = 0 ∧ T 51 2 = 0 ∧ zFr [53, 54, 55] [(51, 2), (51, 3), (51, 7), (51, 8)] S T) := by
  unfold M_X12_cutAll
  rw [zs_in, zs_in]
  have f0 : zFr [53, 54, 55] [(51, 2), (51, 3), (51, 7), (51, 8)] S (up (up S 51 3 (S 51 2)) 51 2 0) := zfr_upO (zfr_upO zFr.rf (by decide)) (by decide)
  refine zloopM (F := fun n (y : Int × Int × HS) => L_X12_cutAll_17 _ n y.1 y.2.1 y.2.2) (fun y => (0 ≤ y.1 ∧ y.1 ≤ y.2.1 ∧ y.2.1 ≤ S 51 2) ∧ zFr [53, 54, 55] [(51, 2), (51, 3), (51, 7), (51, 8)] S y.2.2 ∧ (y.2.2 51 3 = S 51 2 ∧ y.2.2 51 2 = 0) ∧ scn kBl (S 52) (S 51 2) 1001 y.2.1 = tP (S 52) (S 51 2) y.1.toNat ∧ mTs (S 52) (S 51 2) y.2.2 y.1.toNat) (fun y => (S 51 2 - y.2.1).toNat) (fun n y hJ ih => ?_) zBig (0, 0, up (up S 51 3 (S 51 2)) 51 2 0) ⟨by show (0 : Int) ≤ 0 ∧ (0 : Int) ≤ 0 ∧ 0 ≤ S 51 2; omega, f0, ⟨by show up (up S 51 3 (S 51 2)) 51 2 0 51 3 = S 51 2; rw [up_same, if_neg (by decide), up_eq], by show up (up S 51 3 (S 51 2)) 51 2 0 51 2 = 0; exact up_eq ..⟩, rfl, fun i hi => by have hi' : i < 0 := hi; omega⟩ (by show (S 51 2 - 0).toNat < zBig; exact zbig (by omega))
  obtain ⟨c, a, T⟩ := y
  obtain ⟨hb, f, ⟨t3, t2⟩, hsc, hts⟩ := hJ
  simp only at hb f t3 t2 hsc hts ih
  show zP (L_X12_cutAll_17 _ (n + 1) c a T) _
  have t52 : T 52 = S 52 := f.cell 52 (by decide) (by decide)
  rw [L_X12_cutAll_17.eq_2, t3]
  by_cases g : S 51 2 ≤ a
  · have ea : a = S 51 2 := by omega
    have ep : tP (S 52) (S 51 2) c.toNat = S 51 2 := by
      rw [← hsc, ea]
      exact scn_here (fun q => by omega)
    rw [if_pos g, zg_in (by omega), zs_in, zg_in (by omega), zs_in]
    have u3 : up T 53 c 0 51 3 = S 51 2 := by rw [up_cell _ (by decide), t3]
    rw [u3, zs_in, zs_in, zP_ret]
    have cc : ((c.toNat : Nat) : Int) = c := by omega
    have low : ∀ (i : Nat) (k : Nat), k = 53 ∨ k = 54 ∨ k = 55 → i < c.toNat → up (up (up (up T 53 c 0) 54 c (S 51 2)) 51 7 0) 51 8 0 k i = T k i := by
      intro i k hk hi
      rw [up_cell _ (by omega), up_cell _ (by omega)]
      rcases hk with rfl | rfl | rfl
      · rw [up_cell _ (by decide), up_same, if_neg (by omega)]
      · rw [up_same, if_neg (by omega), up_cell _ (by decide)]
      · rw [up_cell _ (by decide), up_cell _ (by decide)]
    refine ⟨⟨c.toNat, by omega, ep, fun i hi => ?_, ?_, ?_⟩, ?_, up_eq .., ?_, zfr_upO (zfr_upO (zfr_up (zfr_up f (by decide)) (by decide)) (by decide)) (by decide)⟩
    · rw [low i 54 (by simp) hi, low i 53 (by simp) hi, low i 55 (by simp) hi]
      exact hts i hi
    · rw [cc, up_cell _ (by decide), up_cell _ (by decide), up_eq]
    · refine mTk_end (Int.le_refl _) ?_
      rw [cc, up_cell _ (by decide), up_cell _ (by decide), up_cell _ (by decide), up_eq]
    · rw [up_same, if_neg (by decide), up_eq]
    · rw [up_same, if_neg (by decide), up_same, if_neg (by decide), up_cell _ (by decide), up_cell _ (by decide), t2]
  · rw [if_neg g, zg_in (by omega), t52]
    -- a blank
    by_cases bl : kBl (S 52 a) = true
    · have nx : zP (J_X12_cutAll_44 (L_X12_cutAll_17 (fun e1 S57 => zg ((0 : Int) ≤ e1 ∧ e1 < 1002) <| zs (up S57 53 e1 0) fun S59 => zg ((0 : Int) ≤ e1 ∧ e1 < 1002) <| zs (up S59 54 e1 (S59 51 3)) fun S61 => zs (up S61 51 7 0) fun S62 => zs (up S62 51 8 0) fun S63 => some (0, S63)) n) c a T) (fun _ T => (∃ m : Nat, m ≤ 1000 ∧ tP (S 52) (S 51 2) m = S 51 2 ∧ mTs (S 52) (S 51 2) T m ∧ T 54 m = S 51 2 ∧ mTk (S 52) (S 51 2) (T 53 m) (T 55 m) (S 51 2)) ∧ T 51 7 = 0 ∧ T 51 8 = 0 ∧ T 51 2 = 0 ∧ zFr [53, 54, 55] [(51, 2), (51, 3), (51, 7), (51, 8)] S T) := by
        unfold J_X12_cutAll_44
        rw [zl_in (by omega)]
        refine ih (c, a + 1, T) ⟨by show 0 ≤ c ∧ c ≤ a + 1 ∧ a + 1 ≤ S 51 2; omega, f, ⟨t3, t2⟩, ?_, hts⟩ (by show (S 51 2 - (a + 1)).toNat < (S 51 2 - a).toNat; omega)
        show scn kBl (S 52) (S 51 2) 1001 (a + 1) = tP (S 52) (S 51 2) c.toNat
        rw [← hsc]
        exact (scn_one (by omega) (by omega) h2.2 bl).symm
      rcases kBl_t.mp bl with e | e
      · rw [if_pos e]
        exact nx
      · rw [if_neg (by omega), if_pos e]
        exact nx
    · have n10 : ¬ S 52 a = 10 := fun e => bl (kBl_t.mpr (Or.inl e))
      have n32 : ¬ S 52 a = 32 := fun e => bl (kBl_t.mpr (Or.inr e))
      have ep : tP (S 52) (S 51 2) c.toNat = a := by
        rw [← hsc]
        exact scn_here (fun q => bl q.2)
      have er := kEn_r (t := S 52) (n := S 51 2) (p := a) (by omega) (by omega) h2.2
      rw [if_neg n10, if_neg n32, zg_in (by omega), zs_in]
      have u52 : up T 54 c a 52 = S 52 := by
        rw [upfun (by decide), t52]
      have u3 : up T 54 c a 51 3 = S 51 2 := by rw [up_cell _ (by decide), t3]
      have fU : zFr [53, 54, 55] [(51, 2), (51, 3), (51, 7), (51, 8)] S (up T 54 c a) := zfr_up f (by decide)
      have cc : ((c.toNat : Nat) : Int) = c := by omega
      have nxt : ∀ so va e : Int, e = kEn (S 52) (S 51 2) a → mTk (S 52) (S 51 2) so va a → zP (L_X12_cutAll_17 (fun e1 S57 => zg ((0 : Int) ≤ e1 ∧ e1 < 1002) <| zs (up S57 53 e1 0) fun S59 => zg ((0 : Int) ≤ e1 ∧ e1 < 1002) <| zs (up S59 54 e1 (S59 51 3)) fun S61 => zs (up S61 51 7 0) fun S62 => zs (up S62 51 8 0) fun S63 => some (0, S63)) n (c + 1) e (up (up (up T 54 c a) 53 c so) 55 c va)) (fun _ T => (∃ m : Nat, m ≤ 1000 ∧ tP (S 52) (S 51 2) m = S 51 2 ∧ mTs (S 52) (S 51 2) T m ∧ T 54 m = S 51 2 ∧ mTk (S 52) (S 51 2) (T 53 m) (T 55 m) (S 51 2)) ∧ T 51 7 = 0 ∧ T 51 8 = 0 ∧ T 51 2 = 0 ∧ zFr [53, 54, 55] [(51, 2), (51, 3), (51, 7), (51, 8)] S T) := by
        intro so va e he hm
        refine ih (c + 1, e, _) ⟨by show 0 ≤ c + 1 ∧ c + 1 ≤ e ∧ e ≤ S 51 2; omega, zfr_up (zfr_up fU (by decide)) (by decide), ⟨?_, ?_⟩, ?_, fun i hi => ?_⟩ (by show (S 51 2 - e).toNat < (S 51 2 - a).toNat; omega)
        · show up (up (up T 54 c a) 53 c so) 55 c va 51 3 = S 51 2
          rw [up_cell _ (by decide), up_cell _ (by decide), u3]
        · show up (up (up T 54 c a) 53 c so) 55 c va 51 2 = 0
          rw [up_cell _ (by decide), up_cell _ (by decide), up_cell _ (by decide), t2]
        · show scn kBl (S 52) (S 51 2) 1001 e = tP (S 52) (S 51 2) (c + 1).toNat
          rw [show (c + 1).toNat = c.toNat + 1 by omega, tP, ep, he]
        · have hi' : i < (c + 1).toNat := hi
          show tP (S 52) (S 51 2) i < S 51 2 ∧ up (up (up T 54 c a) 53 c so) 55 c va 54 i = tP (S 52) (S 51 2) i ∧ mTk (S 52) (S 51 2) (up (up (up T 54 c a) 53 c so) 55 c va 53 i) (up (up (up T 54 c a) 53 c so) 55 c va 55 i) (tP (S 52) (S 51 2) i)
          rw [up_cell _ (show (54 : Nat) ≠ 55 by decide), up_cell _ (show (54 : Nat) ≠ 53 by decide), up_same, up_cell _ (show (53 : Nat) ≠ 55 by decide), up_same, up_cell _ (show (53 : Nat) ≠ 54 by decide), up_same, up_cell _ (show (55 : Nat) ≠ 53 by decide), up_cell _ (show (55 : Nat) ≠ 54 by decide)]
          by_cases q : i = c.toNat
          · subst q
            rw [ep, if_pos cc, if_pos cc, if_pos cc]
            exact ⟨by omega, rfl, hm⟩
          · rw [if_neg (by omega), if_neg (by omega), if_neg (by omega)]
            exact hts i (by omega)
      rw [m_isLetter, zb_some]
      by_cases l : kLe (S 52 a) = true
      · have ke : kEn (S 52) (S 51 2) a = scn kLe (S 52) (S 51 2) 1001 a := by
          unfold kEn
          rw [if_neg (by omega), if_pos l]
        rw [zif1 l, if_neg (by decide)]
        refine m_letters (S := up T 54 c a) (by rw [u3]; omega) (by omega) (by rw [u3]; omega) (fun v hv hvb => ?_)
        rw [u52, u3] at hv ⊢
        rw [← ke] at hv ⊢
        unfold J_X12_cutAll_129 J_X12_cutAll_148 J_X12_cutAll_265
        rw [zl_in (by omega)]
        by_cases g8 : kEn (S 52) (S 51 2) a - a ≤ 8
        · rw [if_pos g8, zg_in (by omega), zs_in, zg_in (by omega), zs_in, zl_in (by omega)]
          exact nxt 1 v _ rfl (mTk_let (by omega) l (by rw [if_pos g8]) hv)
        · rw [if_neg g8, zg_in (by omega), zs_in, zg_in (by omega), zs_in, zl_in (by omega)]
          exact nxt 4 v _ rfl (mTk_let (by omega) l (by rw [if_neg g8]) hv)
      · rw [zif0 l, if_pos rfl, m_isDigit, zb_some]
        by_cases dg : kDi (S 52 a) = true
        · have ke : kEn (S 52) (S 51 2) a = scn kDi (S 52) (S 51 2) 1001 a := by
            unfold kEn
            rw [if_neg (by omega), if_neg l, if_pos dg]
          rw [zif1 dg, if_neg (by decide)]
          refine m_digs (S := up T 54 c a) (by rw [u3]; omega) (by omega) (by rw [u3]; omega) (fun v hv => ?_)
          rw [u52, u3] at hv ⊢
          rw [← ke] at hv ⊢
          unfold J_X12_cutAll_218 J_X12_cutAll_236 J_X12_cutAll_265
          rw [zl_in (by omega)]
          by_cases g2 : kEn (S 52) (S 51 2) a - a ≤ 2
          · rw [if_pos g2, zg_in (by omega), zs_in, zg_in (by omega), zs_in, zl_in (by omega)]
            exact nxt 2 v _ rfl (mTk_dig (by omega) l dg (by rw [if_pos g2]) hv)
          · rw [if_neg g2, zg_in (by omega), zs_in, zg_in (by omega), zs_in, zl_in (by omega)]
            exact nxt 4 v _ rfl (mTk_dig (by omega) l dg (by rw [if_neg g2]) hv)
        · have ke : kEn (S 52) (S 51 2) a = a + 1 := by
            unfold kEn
            rw [if_neg (by omega), if_neg l, if_neg dg]
          rw [zif0 dg, if_pos rfl, m_isSignOf, zb_some]
          unfold J_X12_cutAll_261 J_X12_cutAll_265
          by_cases sg : S 52 a = 40 ∨ S 52 a = 41 ∨ S 52 a = 59
          · rw [zif1 sg, if_neg (by decide), zg_in (by omega), zs_in, zl_in (by omega), zg_in (by omega), zs_in, zl_in (by omega)]
            exact nxt 3 (S 52 a) _ ke.symm (mTk_sig (by omega) l dg (by rw [if_pos sg]) rfl)
          · rw [zif0 sg, if_pos rfl, zg_in (by omega), zs_in, zl_in (by omega), zg_in (by omega), zs_in, zl_in (by omega)]
            exact nxt 4 (S 52 a) _ ke.symm (mTk_sig (by omega) l dg (by rw [if_neg sg]) rfl)
end CU
