/-! tokens: the class reads them -/
theorem zP_zwr {v : Int} {f : Int → zO2} {Q : Int → HS → Prop} : zP (zwr v f) Q ↔ zP (f (zwi v)) Q := Iff.rfl
theorem zwi_in {v : Int} (h : -2147483648 ≤ v ∧ v < 2147483648) : zwi v = v := z_of h
def rW (w : Nat) : List Int := match w with
  | 0 => [16, 21]
  | 1 => [14, 23, 15, 4]
  | 2 => [20, 6, 5, 12]
  | 3 => [20, 8, 7, 9, 18]
  | 4 => [20, 18, 1, 16]
  | 5 => [23, 15, 18]
  | 6 => [14, 9, 1, 7, 1]
  | 7 => [18, 15, 18, 18, 9, 13]
  | _ => []
theorem wW_0 {t : Int → Int} {p : Int} : (∀ j : Int, 0 ≤ j → j < zlenI 0 → t (p + j) = zchI 0 j) ↔ wm t p (rW 0) := by
  have c0 : zchI 0 0 = 117 := by decide +kernel
  have c1 : zchI 0 1 = 112 := by decide +kernel
  have l : zlenI 0 = 2 := by decide +kernel
  show _ ↔ t (p + 1) = 112 ∧ t (p + 0) = 117 ∧ True
  rw [l]
  constructor
  · intro h
    refine ⟨(h 1 (by decide) (by decide)).trans c1, (h 0 (by decide) (by decide)).trans c0, trivial⟩
  · rintro ⟨x1, x0, -⟩ j j0 j1
    have e : j = 0 ∨ j = 1 := by omega
    rcases e with rfl | rfl
    · rw [c0]
      exact x0
    · rw [c1]
      exact x1
theorem wW_1 {t : Int → Int} {p : Int} : (∀ j : Int, 0 ≤ j → j < zlenI 1 → t (p + j) = zchI 1 j) ↔ wm t p (rW 1) := by
  have c0 : zchI 1 0 = 100 := by decide +kernel
  have c1 : zchI 1 1 = 111 := by decide +kernel
  have c2 : zchI 1 2 = 119 := by decide +kernel
  have c3 : zchI 1 3 = 110 := by decide +kernel
  have l : zlenI 1 = 4 := by decide +kernel
  show _ ↔ t (p + 3) = 110 ∧ t (p + 2) = 119 ∧ t (p + 1) = 111 ∧ t (p + 0) = 100 ∧ True
  rw [l]
  constructor
  · intro h
    refine ⟨(h 3 (by decide) (by decide)).trans c3, (h 2 (by decide) (by decide)).trans c2, (h 1 (by decide) (by decide)).trans c1, (h 0 (by decide) (by decide)).trans c0, trivial⟩
  · rintro ⟨x3, x2, x1, x0, -⟩ j j0 j1
    have e : j = 0 ∨ j = 1 ∨ j = 2 ∨ j = 3 := by omega
    rcases e with rfl | rfl | rfl | rfl
    · rw [c0]
      exact x0
    · rw [c1]
      exact x1
    · rw [c2]
      exact x2
    · rw [c3]
      exact x3
theorem wW_2 {t : Int → Int} {p : Int} : (∀ j : Int, 0 ≤ j → j < zlenI 2 → t (p + j) = zchI 2 j) ↔ wm t p (rW 2) := by
  have c0 : zchI 2 0 = 108 := by decide +kernel
  have c1 : zchI 2 1 = 101 := by decide +kernel
  have c2 : zchI 2 2 = 102 := by decide +kernel
  have c3 : zchI 2 3 = 116 := by decide +kernel
  have l : zlenI 2 = 4 := by decide +kernel
  show _ ↔ t (p + 3) = 116 ∧ t (p + 2) = 102 ∧ t (p + 1) = 101 ∧ t (p + 0) = 108 ∧ True
  rw [l]
  constructor
  · intro h
    refine ⟨(h 3 (by decide) (by decide)).trans c3, (h 2 (by decide) (by decide)).trans c2, (h 1 (by decide) (by decide)).trans c1, (h 0 (by decide) (by decide)).trans c0, trivial⟩
  · rintro ⟨x3, x2, x1, x0, -⟩ j j0 j1
    have e : j = 0 ∨ j = 1 ∨ j = 2 ∨ j = 3 := by omega
    rcases e with rfl | rfl | rfl | rfl
    · rw [c0]
      exact x0
    · rw [c1]
      exact x1
    · rw [c2]
      exact x2
    · rw [c3]
      exact x3
theorem wW_3 {t : Int → Int} {p : Int} : (∀ j : Int, 0 ≤ j → j < zlenI 3 → t (p + j) = zchI 3 j) ↔ wm t p (rW 3) := by
  have c0 : zchI 3 0 = 114 := by decide +kernel
  have c1 : zchI 3 1 = 105 := by decide +kernel
  have c2 : zchI 3 2 = 103 := by decide +kernel
  have c3 : zchI 3 3 = 104 := by decide +kernel
  have c4 : zchI 3 4 = 116 := by decide +kernel
  have l : zlenI 3 = 5 := by decide +kernel
  show _ ↔ t (p + 4) = 116 ∧ t (p + 3) = 104 ∧ t (p + 2) = 103 ∧ t (p + 1) = 105 ∧ t (p + 0) = 114 ∧ True
  rw [l]
  constructor
  · intro h
    refine ⟨(h 4 (by decide) (by decide)).trans c4, (h 3 (by decide) (by decide)).trans c3, (h 2 (by decide) (by decide)).trans c2, (h 1 (by decide) (by decide)).trans c1, (h 0 (by decide) (by decide)).trans c0, trivial⟩
  · rintro ⟨x4, x3, x2, x1, x0, -⟩ j j0 j1
    have e : j = 0 ∨ j = 1 ∨ j = 2 ∨ j = 3 ∨ j = 4 := by omega
    rcases e with rfl | rfl | rfl | rfl | rfl
    · rw [c0]
      exact x0
    · rw [c1]
      exact x1
    · rw [c2]
      exact x2
    · rw [c3]
      exact x3
    · rw [c4]
      exact x4
theorem wW_4 {t : Int → Int} {p : Int} : (∀ j : Int, 0 ≤ j → j < zlenI 4 → t (p + j) = zchI 4 j) ↔ wm t p (rW 4) := by
  have c0 : zchI 4 0 = 112 := by decide +kernel
  have c1 : zchI 4 1 = 97 := by decide +kernel
  have c2 : zchI 4 2 = 114 := by decide +kernel
  have c3 : zchI 4 3 = 116 := by decide +kernel
  have l : zlenI 4 = 4 := by decide +kernel
  show _ ↔ t (p + 3) = 116 ∧ t (p + 2) = 114 ∧ t (p + 1) = 97 ∧ t (p + 0) = 112 ∧ True
  rw [l]
  constructor
  · intro h
    refine ⟨(h 3 (by decide) (by decide)).trans c3, (h 2 (by decide) (by decide)).trans c2, (h 1 (by decide) (by decide)).trans c1, (h 0 (by decide) (by decide)).trans c0, trivial⟩
  · rintro ⟨x3, x2, x1, x0, -⟩ j j0 j1
    have e : j = 0 ∨ j = 1 ∨ j = 2 ∨ j = 3 := by omega
    rcases e with rfl | rfl | rfl | rfl
    · rw [c0]
      exact x0
    · rw [c1]
      exact x1
    · rw [c2]
      exact x2
    · rw [c3]
      exact x3
theorem wW_5 {t : Int → Int} {p : Int} : (∀ j : Int, 0 ≤ j → j < zlenI 5 → t (p + j) = zchI 5 j) ↔ wm t p (rW 5) := by
  have c0 : zchI 5 0 = 114 := by decide +kernel
  have c1 : zchI 5 1 = 111 := by decide +kernel
  have c2 : zchI 5 2 = 119 := by decide +kernel
  have l : zlenI 5 = 3 := by decide +kernel
  show _ ↔ t (p + 2) = 119 ∧ t (p + 1) = 111 ∧ t (p + 0) = 114 ∧ True
  rw [l]
  constructor
  · intro h
    refine ⟨(h 2 (by decide) (by decide)).trans c2, (h 1 (by decide) (by decide)).trans c1, (h 0 (by decide) (by decide)).trans c0, trivial⟩
  · rintro ⟨x2, x1, x0, -⟩ j j0 j1
    have e : j = 0 ∨ j = 1 ∨ j = 2 := by omega
    rcases e with rfl | rfl | rfl
    · rw [c0]
      exact x0
    · rw [c1]
      exact x1
    · rw [c2]
      exact x2
theorem wW_6 {t : Int → Int} {p : Int} : (∀ j : Int, 0 ≤ j → j < zlenI 6 → t (p + j) = zchI 6 j) ↔ wm t p (rW 6) := by
  have c0 : zchI 6 0 = 97 := by decide +kernel
  have c1 : zchI 6 1 = 103 := by decide +kernel
  have c2 : zchI 6 2 = 97 := by decide +kernel
  have c3 : zchI 6 3 = 105 := by decide +kernel
  have c4 : zchI 6 4 = 110 := by decide +kernel
  have l : zlenI 6 = 5 := by decide +kernel
  show _ ↔ t (p + 4) = 110 ∧ t (p + 3) = 105 ∧ t (p + 2) = 97 ∧ t (p + 1) = 103 ∧ t (p + 0) = 97 ∧ True
  rw [l]
  constructor
  · intro h
    refine ⟨(h 4 (by decide) (by decide)).trans c4, (h 3 (by decide) (by decide)).trans c3, (h 2 (by decide) (by decide)).trans c2, (h 1 (by decide) (by decide)).trans c1, (h 0 (by decide) (by decide)).trans c0, trivial⟩
  · rintro ⟨x4, x3, x2, x1, x0, -⟩ j j0 j1
    have e : j = 0 ∨ j = 1 ∨ j = 2 ∨ j = 3 ∨ j = 4 := by omega
    rcases e with rfl | rfl | rfl | rfl | rfl
    · rw [c0]
      exact x0
    · rw [c1]
      exact x1
    · rw [c2]
      exact x2
    · rw [c3]
      exact x3
    · rw [c4]
      exact x4
theorem wW_7 {t : Int → Int} {p : Int} : (∀ j : Int, 0 ≤ j → j < zlenI 7 → t (p + j) = zchI 7 j) ↔ wm t p (rW 7) := by
  have c0 : zchI 7 0 = 109 := by decide +kernel
  have c1 : zchI 7 1 = 105 := by decide +kernel
  have c2 : zchI 7 2 = 114 := by decide +kernel
  have c3 : zchI 7 3 = 114 := by decide +kernel
  have c4 : zchI 7 4 = 111 := by decide +kernel
  have c5 : zchI 7 5 = 114 := by decide +kernel
  have l : zlenI 7 = 6 := by decide +kernel
  show _ ↔ t (p + 5) = 114 ∧ t (p + 4) = 111 ∧ t (p + 3) = 114 ∧ t (p + 2) = 114 ∧ t (p + 1) = 105 ∧ t (p + 0) = 109 ∧ True
  rw [l]
  constructor
  · intro h
    refine ⟨(h 5 (by decide) (by decide)).trans c5, (h 4 (by decide) (by decide)).trans c4, (h 3 (by decide) (by decide)).trans c3, (h 2 (by decide) (by decide)).trans c2, (h 1 (by decide) (by decide)).trans c1, (h 0 (by decide) (by decide)).trans c0, trivial⟩
  · rintro ⟨x5, x4, x3, x2, x1, x0, -⟩ j j0 j1
    have e : j = 0 ∨ j = 1 ∨ j = 2 ∨ j = 3 ∨ j = 4 ∨ j = 5 := by omega
    rcases e with rfl | rfl | rfl | rfl | rfl | rfl
    · rw [c0]
      exact x0
    · rw [c1]
      exact x1
    · rw [c2]
      exact x2
    · rw [c3]
      exact x3
    · rw [c4]
      exact x4
    · rw [c5]
      exact x5
theorem rW_r : ∀ w : Nat, w < 8 → ∀ c ∈ rW w, 1 ≤ c ∧ c ≤ 26 := by decide
theorem rW_l : ∀ w : Nat, w < 8 → zlenI w = (rW w).length := by decide +kernel
theorem rW_v : wl (rW 0) = 793 ∧ wl (rW 1) = 224012 ∧ wl (rW 2) = 614923 ∧ wl (rW 3) = 34200674 ∧ wl (rW 4) = 812503 ∧ wl (rW 5) = 25220 ∧ wl (rW 6) = 2230448 ∧ wl (rW 7) = 919275859 := by decide
theorem wW {t : Int → Int} {p : Int} {w : Nat} (hw : w < 8) : (∀ j : Int, 0 ≤ j → j < zlenI w → t (p + j) = zchI w j) ↔ wm t p (rW w) := by
  have e : w = 0 ∨ w = 1 ∨ w = 2 ∨ w = 3 ∨ w = 4 ∨ w = 5 ∨ w = 6 ∨ w = 7 := by omega
  rcases e with rfl | rfl | rfl | rfl | rfl | rfl | rfl | rfl
  · exact wW_0
  · exact wW_1
  · exact wW_2
  · exact wW_3
  · exact wW_4
  · exact wW_5
  · exact wW_6
  · exact wW_7
section NX
variable {S : HS}
/-- what holds of the tape -/
def tOk (S : HS) : Prop := (0 ≤ S 40 1 ∧ S 40 1 ≤ 1000) ∧ ∀ i : Int, 0 ≤ i → i < S 40 1 → 10 ≤ S 41 i ∧ S 41 i ≤ 126
theorem tOk.fr {T : HS} {O : List (Nat × Int)} (h : tOk S) (f : zFr [] O S T) (hO : (O.all fun q => q.1 == 40 && q.2 != 1) = true) : tOk T ∧ T 40 1 = S 40 1 ∧ T 41 = S 41 := by
  have e1 : T 40 1 = S 40 1 := f 40 1 (by simp) (fun m => by
    have := List.all_eq_true.mp hO _ m
    simp at this)
  have e2 : T 41 = S 41 := f.cell 41 (by simp) (by
    refine List.all_eq_true.mpr (fun q hq => ?_)
    have := List.all_eq_true.mp hO q hq
    simp at this
    simp [this.1])
  refine ⟨?_, e1, e2⟩
  unfold tOk
  rw [e1, e2]
  exact h
theorem e_signAt {i : Int} (h : tOk S) (i0 : 0 ≤ i) (i1 : i < S 40 1) : M_X9_signAt i S = some (S 41 i, S) := by
  have := h.2 i i0 i1
  have := h.1
  unfold M_X9_signAt
  rw [if_neg (by omega), if_neg (by omega), if_neg (by omega), zg_in (by omega), zg_in (by omega)]
theorem e_signEnd {i : Int} (h : tOk S) (i1 : S 40 1 ≤ i) : M_X9_signAt i S = some (32, S) := by
  unfold M_X9_signAt
  by_cases g : i < 0
  · rw [if_pos g]
  · rw [if_neg g, if_pos i1]
theorem e_isBlank {c : Int} : M_X9_isBlank c S = some (if kBl c = true then 1 else 0, S) := by
  unfold M_X9_isBlank J_X9_isBlank_12
  by_cases a : c = 10
  · rw [if_pos a, if_pos (kBl_t.mpr (Or.inl a))]
  · rw [if_neg a]
    by_cases b : c = 32
    · rw [if_pos b, if_pos (kBl_t.mpr (Or.inr b))]
    · rw [if_neg b, if_neg (fun q => (kBl_t.mp q).elim a b)]
theorem e_isLetter {c : Int} : M_X9_isLetter c S = some (if kLe c = true then 1 else 0, S) := by
  unfold M_X9_isLetter
  by_cases a : c < 97
  · rw [if_pos a, if_neg (fun q => by have := kLe_t.mp q; omega)]
  · rw [if_neg a]
    by_cases b : 122 < c
    · rw [if_pos b, if_neg (fun q => by have := kLe_t.mp q; omega)]
    · rw [if_neg b, if_pos (kLe_t.mpr (by omega))]
theorem e_isDigit {c : Int} : M_X9_isDigit c S = some (if kDi c = true then 1 else 0, S) := by
  unfold M_X9_isDigit
  by_cases a : c < 48
  · rw [if_pos a, if_neg (fun q => by have := kDi_t.mp q; omega)]
  · rw [if_neg a]
    by_cases b : 57 < c
    · rw [if_pos b, if_neg (fun q => by have := kDi_t.mp q; omega)]
    · rw [if_neg b, if_pos (kDi_t.mpr (by omega))]
theorem e_isWord {w : Nat} (hw : w < 8) (hp : 0 ≤ S 40 4 ∧ S 40 4 ≤ S 40 2 ∧ S 40 2 ≤ 1000) : zP (M_X9_isWord w S) (fun r T => T = S ∧ (r = 0 ∨ r = 1) ∧ (r = 1 ↔ (S 40 2 - S 40 4 = zlenI w ∧ ∀ j : Int, 0 ≤ j → j < zlenI w → S 41 (S 40 4 + j) = zchI w j))) := by
  have l8 : 0 ≤ zlenI w ∧ zlenI w < 8 := by
    rw [rW_l w hw]
    have : (rW w).length < 8 := by
      have e : w = 0 ∨ w = 1 ∨ w = 2 ∨ w = 3 ∨ w = 4 ∨ w = 5 ∨ w = 6 ∨ w = 7 := by omega
      rcases e with rfl | rfl | rfl | rfl | rfl | rfl | rfl | rfl <;> decide
    omega
  unfold M_X9_isWord
  rw [zl_in (by omega)]
  by_cases g : zlenI w = S 40 2 - S 40 4
  · rw [if_pos g, if_pos hp.2.2]
    refine zloop (b := zlenI w) (fun v T => (0 ≤ v ∧ v ≤ zlenI w) ∧ T = S ∧ ∀ j : Int, 0 ≤ j → j < v → S 41 (S 40 4 + j) = zchI w j) (fun n v T hJ hv => ?_) (fun n v T hJ hv ih => ?_) _ _ _ ⟨⟨Int.le_refl _, l8.1⟩, rfl, fun j a b => by omega⟩ (zbig (by omega))
    · obtain ⟨a, rfl, c⟩ := hJ
      rw [L_X9_isWord_32.eq_2, if_pos hv, zP_ret]
      exact ⟨rfl, Or.inr rfl, fun _ => ⟨g.symm, fun j j0 j1 => c j j0 (by omega)⟩, fun _ => rfl⟩
    · obtain ⟨a, rfl, c⟩ := hJ
      rw [L_X9_isWord_32.eq_2, if_neg (by omega), zg_in ⟨a.1, hv⟩, zg_in (by omega)]
      by_cases q : zchI w v = T 41 (T 40 4 + v)
      · rw [if_pos q, zl_in (by omega)]
        refine ih _ ⟨by omega, rfl, fun j j0 j1 => ?_⟩
        by_cases e : j = v
        · rw [e, q]
        · exact c j j0 (by omega)
      · rw [if_neg q, zP_ret]
        exact ⟨rfl, Or.inl rfl, fun z => absurd z (by decide), fun z => absurd (z.2 v a.1 hv).symm q⟩
  · rw [if_neg g, zP_ret]
    exact ⟨rfl, Or.inl rfl, fun z => absurd z (by decide), fun z => absurd z.1.symm g⟩

/-- the kind of a word of so many letters -/
def kLt (t : Int → Int) (p L : Int) : Int := if L ≤ 8 then kWo (wVa t p L.toNat) else 13
theorem e_word {w : Nat} (hw : w < 8) (hp : 0 ≤ S 40 4 ∧ S 40 4 ≤ S 40 2 ∧ S 40 2 ≤ 1000) (hl : ∀ i : Int, S 40 4 ≤ i → i < S 40 2 → 97 ≤ S 41 i ∧ S 41 i ≤ 122) : ∃ r : Int, M_X9_isWord w S = some (r, S) ∧ (r = 0 ∨ r = 1) ∧ (r = 1 ↔ wVa (S 41) (S 40 4) (S 40 2 - S 40 4).toNat = wl (rW w)) := by
  obtain ⟨r, T, e, rfl, h1, h2⟩ := e_isWord hw hp
  refine ⟨r, e, h1, h2.trans ?_⟩
  rw [wl_dec (rW w) (rW_r w hw) (T 40 2 - T 40 4).toNat (fun j hj => hl _ (by omega) (by omega)), wW hw, rW_l w hw]
  constructor
  · rintro ⟨a, b⟩
    exact ⟨by omega, b⟩
  · rintro ⟨a, b⟩
    exact ⟨by omega, b⟩
theorem e_readWord38 (hp : 0 ≤ S 40 4 ∧ S 40 4 ≤ S 40 2 ∧ S 40 2 ≤ 1000) (hl : ∀ i : Int, S 40 4 ≤ i → i < S 40 2 → 97 ≤ S 41 i ∧ S 41 i ≤ 122) : J_X9_readWord_38 S = some (0, up S 40 3 (kLt (S 41) (S 40 4) (S 40 2 - S 40 4))) := by
  have v := rW_v
  have no : ¬ S 40 2 - S 40 4 ≤ 8 → ∀ w : Nat, w < 8 → ∀ r : Int, (r = 1 ↔ wVa (S 41) (S 40 4) (S 40 2 - S 40 4).toNat = wl (rW w)) → r ≠ 1 := by
    intro g w hw r hr hr1
    have x := (wl_dec (rW w) (rW_r w hw) (S 40 2 - S 40 4).toNat (fun j hj => hl _ (by omega) (by omega))).mp (hr.mp hr1)
    have y : (rW w).length < 8 := by
      have e : w = 0 ∨ w = 1 ∨ w = 2 ∨ w = 3 ∨ w = 4 ∨ w = 5 ∨ w = 6 ∨ w = 7 := by omega
      rcases e with rfl | rfl | rfl | rfl | rfl | rfl | rfl | rfl <;> decide
    omega
  obtain ⟨r0, e0, a0, b0⟩ := e_word (w := 0) (by decide) hp hl
  obtain ⟨r1, e1, a1, b1⟩ := e_word (w := 1) (by decide) hp hl
  obtain ⟨r2, e2, a2, b2⟩ := e_word (w := 2) (by decide) hp hl
  obtain ⟨r3, e3, a3, b3⟩ := e_word (w := 3) (by decide) hp hl
  obtain ⟨r4, e4, a4, b4⟩ := e_word (w := 4) (by decide) hp hl
  obtain ⟨r5, e5, a5, b5⟩ := e_word (w := 5) (by decide) hp hl
  obtain ⟨r6, e6, a6, b6⟩ := e_word (w := 6) (by decide) hp hl
  obtain ⟨r7, e7, a7, b7⟩ := e_word (w := 7) (by decide) hp hl
  unfold J_X9_readWord_38 J_X9_readWord_175 kLt
  by_cases g : S 40 2 - S 40 4 ≤ 8
  · rw [if_pos g]
    unfold kWo
    generalize wVa (S 41) (S 40 4) (S 40 2 - S 40 4).toNat = m at *
    rw [v.1] at b0
    rw [v.2.1] at b1
    rw [v.2.2.1] at b2
    rw [v.2.2.2.1] at b3
    rw [v.2.2.2.2.1] at b4
    rw [v.2.2.2.2.2.1] at b5
    rw [v.2.2.2.2.2.2.1] at b6
    rw [v.2.2.2.2.2.2.2] at b7
    rw [e0, zb_some]
    by_cases q0 : m = 793
    · rw [if_neg (show ¬ r0 = 0 by have := b0.mpr q0; omega), if_pos q0]
      rfl
    · rw [if_pos (show r0 = 0 by rcases a0 with z | z; exact z; exact absurd (b0.mp z) q0), if_neg q0]
      rw [e1, zb_some]
      by_cases q1 : m = 224012
      · rw [if_neg (show ¬ r1 = 0 by have := b1.mpr q1; omega), if_pos q1]
        rfl
      · rw [if_pos (show r1 = 0 by rcases a1 with z | z; exact z; exact absurd (b1.mp z) q1), if_neg q1]
        rw [e2, zb_some]
        by_cases q2 : m = 614923
        · rw [if_neg (show ¬ r2 = 0 by have := b2.mpr q2; omega), if_pos q2]
          rfl
        · rw [if_pos (show r2 = 0 by rcases a2 with z | z; exact z; exact absurd (b2.mp z) q2), if_neg q2]
          rw [e3, zb_some]
          by_cases q3 : m = 34200674
          · rw [if_neg (show ¬ r3 = 0 by have := b3.mpr q3; omega), if_pos q3]
            rfl
          · rw [if_pos (show r3 = 0 by rcases a3 with z | z; exact z; exact absurd (b3.mp z) q3), if_neg q3]
            rw [e4, zb_some]
            by_cases q4 : m = 812503
            · rw [if_neg (show ¬ r4 = 0 by have := b4.mpr q4; omega), if_pos q4]
              rfl
            · rw [if_pos (show r4 = 0 by rcases a4 with z | z; exact z; exact absurd (b4.mp z) q4), if_neg q4]
              rw [e5, zb_some]
              by_cases q5 : m = 25220
              · rw [if_neg (show ¬ r5 = 0 by have := b5.mpr q5; omega), if_pos q5]
                rfl
              · rw [if_pos (show r5 = 0 by rcases a5 with z | z; exact z; exact absurd (b5.mp z) q5), if_neg q5]
                rw [e6, zb_some]
                by_cases q6 : m = 2230448
                · rw [if_neg (show ¬ r6 = 0 by have := b6.mpr q6; omega), if_pos q6]
                  rfl
                · rw [if_pos (show r6 = 0 by rcases a6 with z | z; exact z; exact absurd (b6.mp z) q6), if_neg q6]
                  rw [e7, zb_some]
                  by_cases q7 : m = 919275859
                  · rw [if_neg (show ¬ r7 = 0 by have := b7.mpr q7; omega), if_pos q7]
                    rfl
                  · rw [if_pos (show r7 = 0 by rcases a7 with z | z; exact z; exact absurd (b7.mp z) q7), if_neg q7]
                    rfl
  · rw [if_neg g]
    have n0 : r0 = 0 := a0.elim id (fun z => absurd z (no g 0 (by decide) r0 b0))
    have n1 : r1 = 0 := a1.elim id (fun z => absurd z (no g 1 (by decide) r1 b1))
    have n2 : r2 = 0 := a2.elim id (fun z => absurd z (no g 2 (by decide) r2 b2))
    have n3 : r3 = 0 := a3.elim id (fun z => absurd z (no g 3 (by decide) r3 b3))
    have n4 : r4 = 0 := a4.elim id (fun z => absurd z (no g 4 (by decide) r4 b4))
    have n5 : r5 = 0 := a5.elim id (fun z => absurd z (no g 5 (by decide) r5 b5))
    have n6 : r6 = 0 := a6.elim id (fun z => absurd z (no g 6 (by decide) r6 b6))
    have n7 : r7 = 0 := a7.elim id (fun z => absurd z (no g 7 (by decide) r7 b7))
    rw [e0, zb_some, if_pos n0, e1, zb_some, if_pos n1, e2, zb_some, if_pos n2, e3, zb_some, if_pos n3, e4, zb_some, if_pos n4, e5, zb_some, if_pos n5, e6, zb_some, if_pos n6, e7, zb_some, if_pos n7]
    rfl
theorem e_readWord (h : tOk S) (hp : 0 ≤ S 40 4 ∧ S 40 4 = S 40 2 ∧ S 40 2 ≤ S 40 1) : zP (M_X9_readWord S) (fun _ T => T 40 2 = scn kLe (S 41) (S 40 1) 1001 (S 40 4) ∧ T 40 3 = kLt (S 41) (S 40 4) (scn kLe (S 41) (S 40 1) 1001 (S 40 4) - S 40 4) ∧ zFr [] [(40, 2), (40, 3)] S T) := by
  have n0 := h.1
  unfold M_X9_readWord
  refine zloopM (F := fun n (T : HS) => L_X9_readWord_0 _ n T) (fun T => zFr [] [(40, 2)] S T ∧ (S 40 4 ≤ T 40 2 ∧ T 40 2 ≤ S 40 1) ∧ ∀ i : Int, S 40 4 ≤ i → i < T 40 2 → kLe (S 41 i) = true) (fun T => (S 40 1 - T 40 2).toNat) (fun n T hJ ih => ?_) zBig S ⟨zFr.rf, by omega, fun i a b => by omega⟩ (zbig (by omega))
  obtain ⟨f, hr, hl⟩ := hJ
  obtain ⟨okT, t1, t41⟩ := h.fr f (by decide)
  have t4 : T 40 4 = S 40 4 := f 40 4 (by decide) (by decide)
  have fin : ¬ (T 40 2 < S 40 1 ∧ kLe (S 41 (T 40 2)) = true) → zP (J_X9_readWord_38 T) (fun _ T => T 40 2 = scn kLe (S 41) (S 40 1) 1001 (S 40 4) ∧ T 40 3 = kLt (S 41) (S 40 4) (scn kLe (S 41) (S 40 1) 1001 (S 40 4) - S 40 4) ∧ zFr [] [(40, 2), (40, 3)] S T) := by
    intro hx
    have e := scn_eq (b := kLe) (t := S 41) (n := S 40 1) (r := T 40 2) hx 1001 (S 40 4) hr.1 (fun i i0 i1 => ⟨by omega, hl i i0 i1⟩) (by omega)
    rw [e_readWord38 (S := T) (by omega) (fun i i0 i1 => by rw [t41]; exact kLe_t.mp (hl i (by omega) i1)), zP_ret]
    refine ⟨?_, ?_, zfr_upO (zFr.mono (by decide) (by decide) f) (by decide)⟩
    · rw [up_same, if_neg (by decide), e]
    · rw [up_eq, e, t4, t41]
  rw [L_X9_readWord_0.eq_2, t1]
  by_cases g : S 40 1 ≤ T 40 2
  · rw [if_pos g]
    exact fin (fun q => by omega)
  · rw [if_neg g, e_signAt okT (by omega) (by omega), zb_some, e_isLetter, zb_some, t41]
    by_cases g2 : kLe (S 41 (T 40 2)) = true
    · rw [zif1 g2, if_neg (by decide), zl_in (by omega), zs_in]
      refine ih _ ⟨zfr_upO f (by decide), ?_, fun i i0 i1 => ?_⟩ ?_
      · rw [up_eq]
        omega
      · rw [up_eq] at i1
        by_cases e : i = T 40 2
        · rw [e]
          exact g2
        · exact hl i i0 (by omega)
      · rw [up_eq]
        omega
    · rw [zif0 g2, if_pos rfl]
      exact fin (fun q => g2 q.2)
theorem e_readNum (h : tOk S) (hp : 0 ≤ S 40 4 ∧ S 40 4 = S 40 2 ∧ S 40 2 ≤ S 40 1) : zP (M_X9_readNumber S) (fun _ T => T 40 2 = scn kDi (S 41) (S 40 1) 1001 (S 40 4) ∧ T 40 3 = (if scn kDi (S 41) (S 40 1) 1001 (S 40 4) - S 40 4 ≤ 2 then 8 else 13) ∧ (scn kDi (S 41) (S 40 1) 1001 (S 40 4) - S 40 4 ≤ 2 → T 40 5 = dVa (S 41) (S 40 4) (scn kDi (S 41) (S 40 1) 1001 (S 40 4) - S 40 4).toNat) ∧ zFr [] [(40, 2), (40, 3), (40, 5)] S T) := by
  have n0 := h.1
  unfold M_X9_readNumber
  rw [zs_in]
  refine zloopM (F := fun n (T : HS) => L_X9_readNumber_5 _ n T) (fun T => zFr [] [(40, 2), (40, 5)] S T ∧ (S 40 4 ≤ T 40 2 ∧ T 40 2 ≤ S 40 1) ∧ (∀ i : Int, S 40 4 ≤ i → i < T 40 2 → kDi (S 41 i) = true) ∧ (T 40 2 - S 40 4 ≤ 2 → T 40 5 = dVa (S 41) (S 40 4) (T 40 2 - S 40 4).toNat)) (fun T => (S 40 1 - T 40 2).toNat) (fun n T hJ ih => ?_) zBig _ ⟨zfr_upO zFr.rf (by decide), ?_, fun i a b => ?_, fun _ => ?_⟩ ?_
  · obtain ⟨f, hr, hl, hv⟩ := hJ
    obtain ⟨okT, t1, t41⟩ := h.fr f (by decide)
    have t4 : T 40 4 = S 40 4 := f 40 4 (by decide) (by decide)
    have fin : ¬ (T 40 2 < S 40 1 ∧ kDi (S 41 (T 40 2)) = true) → zP (J_X9_readNumber_66 T) (fun _ T => T 40 2 = scn kDi (S 41) (S 40 1) 1001 (S 40 4) ∧ T 40 3 = (if scn kDi (S 41) (S 40 1) 1001 (S 40 4) - S 40 4 ≤ 2 then 8 else 13) ∧ (scn kDi (S 41) (S 40 1) 1001 (S 40 4) - S 40 4 ≤ 2 → T 40 5 = dVa (S 41) (S 40 4) (scn kDi (S 41) (S 40 1) 1001 (S 40 4) - S 40 4).toNat) ∧ zFr [] [(40, 2), (40, 3), (40, 5)] S T) := by
      intro hx
      have e := scn_eq (b := kDi) (t := S 41) (n := S 40 1) (r := T 40 2) hx 1001 (S 40 4) hr.1 (fun i i0 i1 => ⟨by omega, hl i i0 i1⟩) (by omega)
      unfold J_X9_readNumber_66 J_X9_readNumber_87
      rw [t4, zl_in (by omega), e]
      by_cases g : T 40 2 - S 40 4 ≤ 2
      · rw [if_pos g, zs_in, zP_ret, if_pos g]
        refine ⟨?_, up_eq .., fun _ => ?_, zfr_upO (zFr.mono (by decide) (by decide) f) (by decide)⟩
        · rw [up_same, if_neg (by decide)]
        · rw [up_same, if_neg (by decide)]
          exact hv g
      · rw [if_neg g, zs_in, zP_ret, if_neg g]
        refine ⟨?_, up_eq .., fun q => absurd q g, zfr_upO (zFr.mono (by decide) (by decide) f) (by decide)⟩
        rw [up_same, if_neg (by decide)]
    rw [L_X9_readNumber_5.eq_2, t1]
    by_cases g : S 40 1 ≤ T 40 2
    · rw [if_pos g]
      exact fin (fun q => by omega)
    · rw [if_neg g, e_signAt okT (by omega) (by omega), zb_some, e_isDigit, zb_some, t41]
      by_cases g2 : kDi (S 41 (T 40 2)) = true
      · rw [zif1 g2, if_neg (by decide), e_signAt okT (by omega) (by omega), zb_some, t41, zP_zwr, zs_in]
        have u2 : ∀ v : Int, up T 40 5 v 40 2 = T 40 2 := fun v => by rw [up_same, if_neg (by decide)]
        rw [u2, zl_in (by omega), zs_in]
        refine ih _ ⟨zfr_upO (zfr_upO f (by decide)) (by decide), ?_, fun i i0 i1 => ?_, fun q => ?_⟩ ?_
        · rw [up_eq]
          omega
        · rw [up_eq] at i1
          by_cases e : i = T 40 2
          · rw [e]
            exact g2
          · exact hl i i0 (by omega)
        · rw [up_eq] at q ⊢
          have dg := kDi_t.mp g2
          have vv := hv (by omega)
          rw [up_same, if_neg (by decide), up_eq, vv, show (T 40 2 + 1 - S 40 4).toNat = (T 40 2 - S 40 4).toNat + 1 by omega]
          have ed : dVa (S 41) (S 40 4) ((T 40 2 - S 40 4).toNat + 1) = 10 * dVa (S 41) (S 40 4) (T 40 2 - S 40 4).toNat + S 41 (S 40 4 + ((T 40 2 - S 40 4).toNat : Int)) - 48 := rfl
          have small : 0 ≤ dVa (S 41) (S 40 4) (T 40 2 - S 40 4).toNat ∧ dVa (S 41) (S 40 4) (T 40 2 - S 40 4).toNat ≤ 9 := by
            have c : T 40 2 - S 40 4 = 0 ∨ T 40 2 - S 40 4 = 1 := by omega
            rcases c with c | c
            · rw [c]
              exact ⟨Int.le_refl _, show (0 : Int) ≤ 9 by decide⟩
            · rw [c]
              have d0 := kDi_t.mp (hl (S 40 4) (Int.le_refl _) (by omega))
              show 0 ≤ 10 * 0 + S 41 (S 40 4 + 0) - 48 ∧ 10 * 0 + S 41 (S 40 4 + 0) - 48 ≤ 9
              rw [Int.add_zero]
              omega
          rw [ed, show S 40 4 + ((T 40 2 - S 40 4).toNat : Int) = T 40 2 by omega, zwi_in (by omega)]
        · rw [up_eq]
          omega
      · rw [zif0 g2, if_pos rfl]
        exact fin (fun q => g2 q.2)
  · rw [up_same, if_neg (by decide)]
    omega
  · rw [up_same, if_neg (by decide)] at b
    omega
  · rw [up_eq, show up S 40 5 0 40 2 = S 40 2 by rw [up_same, if_neg (by decide)], show (S 40 2 - S 40 4).toNat = 0 by omega]
    rfl
  · rw [up_same, if_neg (by decide)]
    exact zbig (by omega)
/-- the token at a place lies ready -/
def tAt (S : HS) (p : Int) : Prop := S 40 4 = p ∧ S 40 2 = kEn (S 41) (S 40 1) p ∧ S 40 3 = kKi (S 41) (S 40 1) p ∧ (kKi (S 41) (S 40 1) p = 8 → S 40 5 = kVa (S 41) (S 40 1) p)
theorem e_next (h : tOk S) (hp : 0 ≤ S 40 2 ∧ S 40 2 ≤ S 40 1) : zP (M_X9_next S) (fun _ T => tAt T (scn kBl (S 41) (S 40 1) 1001 (S 40 2)) ∧ zFr [] [(40, 2), (40, 3), (40, 4), (40, 5)] S T) := by
  have n0 := h.1
  unfold M_X9_next
  refine zloopM (F := fun n (T : HS) => L_X9_next_0 _ n T) (fun T => zFr [] [(40, 2)] S T ∧ (S 40 2 ≤ T 40 2 ∧ T 40 2 ≤ S 40 1) ∧ ∀ i : Int, S 40 2 ≤ i → i < T 40 2 → kBl (S 41 i) = true) (fun T => (S 40 1 - T 40 2).toNat) (fun n T hJ ih => ?_) zBig S ⟨zFr.rf, by omega, fun i a b => by omega⟩ (zbig (by omega))
  obtain ⟨f, hr, hl⟩ := hJ
  obtain ⟨okT, t1, t41⟩ := h.fr f (by decide)
  have fin : ¬ (T 40 2 < S 40 1 ∧ kBl (S 41 (T 40 2)) = true) → zP (J_X9_next_38 T) (fun _ T => tAt T (scn kBl (S 41) (S 40 1) 1001 (S 40 2)) ∧ zFr [] [(40, 2), (40, 3), (40, 4), (40, 5)] S T) := by
    intro hx
    have e := scn_eq (b := kBl) (t := S 41) (n := S 40 1) (r := T 40 2) hx 1001 (S 40 2) hr.1 (fun i i0 i1 => ⟨by omega, hl i i0 i1⟩) (by omega)
    rw [e]
    generalize hq : T 40 2 = p at *
    unfold J_X9_next_38 J_X9_next_149
    rw [zs_in, hq]
    have f2 : zFr [] [(40, 2), (40, 4)] S (up T 40 4 p) := zfr_upO (zFr.mono (by decide) (by decide) f) (by decide)
    obtain ⟨okU, u1, u41⟩ := h.fr f2 (by decide)
    have u2 : up T 40 4 p 40 2 = p := by rw [up_same, if_neg (by decide), hq]
    have u4 : up T 40 4 p 40 4 = p := up_eq ..
    generalize hU : up T 40 4 p = U at *
    rw [u2]
    have out : ∀ (V : HS) (k : Int), zFr [] [(40, 2), (40, 3), (40, 4), (40, 5)] S V → V 40 4 = p → V 40 2 = kEn (S 41) (S 40 1) p → V 40 3 = kKi (S 41) (S 40 1) p → (kKi (S 41) (S 40 1) p = 8 → V 40 5 = kVa (S 41) (S 40 1) p) → tAt V p ∧ zFr [] [(40, 2), (40, 3), (40, 4), (40, 5)] S V := by
      intro V k fV v4 v2 v3 v5
      obtain ⟨-, v1, v41⟩ := h.fr fV (by decide)
      refine ⟨?_, fV⟩
      unfold tAt
      rw [v1, v41]
      exact ⟨v4, v2, v3, v5⟩
    by_cases g : p < S 40 1
    · rw [e_signAt okU (by omega) (by omega), zb_some, u1, u2, if_pos g, u41, e_isLetter, zb_some]
      by_cases g2 : kLe (S 41 p) = true
      · have ke : kEn (S 41) (S 40 1) p = scn kLe (S 41) (S 40 1) 1001 p := by
          unfold kEn
          rw [if_neg (by omega), if_pos g2]
        have kk : kKi (S 41) (S 40 1) p = kLt (S 41) p (kEn (S 41) (S 40 1) p - p) := by
          unfold kKi kLt
          rw [if_neg (by omega), if_pos g2]
        rw [zif1 g2, if_neg (by decide), zP_zb]
        refine zP_mono (e_readWord okU (by omega)) (fun _ V hV => ?_)
        obtain ⟨v2, v3, fV⟩ := hV
        rw [u41, u1, u4] at v2 v3
        rw [zP_ret]
        refine out V 0 (zFr.trans (zFr.mono (by decide) (by decide) f2) (zFr.mono (by decide) (by decide) fV)) ?_ (by rw [v2, ke]) (by rw [v3, kk, ke]) (fun z => ?_)
        · rw [fV 40 4 (by decide) (by decide)]
          exact u4
        · rw [kk] at z
          unfold kLt at z
          have r := kWo_r (v := wVa (S 41) p (kEn (S 41) (S 40 1) p - p).toNat)
          split at z <;> omega
      · rw [zif0 g2, if_pos rfl, e_isDigit, zb_some]
        by_cases g3 : kDi (S 41 p) = true
        · have ke : kEn (S 41) (S 40 1) p = scn kDi (S 41) (S 40 1) 1001 p := by
            unfold kEn
            rw [if_neg (by omega), if_neg g2, if_pos g3]
          have kk : kKi (S 41) (S 40 1) p = if kEn (S 41) (S 40 1) p - p ≤ 2 then 8 else 13 := by
            unfold kKi
            rw [if_neg (by omega), if_neg g2, if_pos g3]
          rw [zif1 g3, if_neg (by decide), zP_zb]
          refine zP_mono (e_readNum okU (by omega)) (fun _ V hV => ?_)
          obtain ⟨v2, v3, v5, fV⟩ := hV
          rw [u41, u1, u4] at v2 v3 v5
          rw [zP_ret]
          refine out V 0 (zFr.trans (zFr.mono (by decide) (by decide) f2) (zFr.mono (by decide) (by decide) fV)) ?_ (by rw [v2, ke]) (by rw [v3, kk, ke]) (fun z => ?_)
          · rw [fV 40 4 (by decide) (by decide)]
            exact u4
          · rw [kk] at z
            unfold kVa
            rw [ke] at z ⊢
            refine v5 ?_
            split at z <;> omega
        · have ke : kEn (S 41) (S 40 1) p = p + 1 := by
            unfold kEn
            rw [if_neg (by omega), if_neg g2, if_neg g3]
          have kk : kKi (S 41) (S 40 1) p = if S 41 p = 40 then 9 else if S 41 p = 41 then 10 else if S 41 p = 59 then 11 else 13 := by
            unfold kKi
            rw [if_neg (by omega), if_neg g2, if_neg g3]
          have last : ∀ k : Int, kKi (S 41) (S 40 1) p = k → k ≠ 8 → zP (zs (up (up U 40 2 (p + 1)) 40 3 k) fun S25 => some (0, S25)) (fun _ T => tAt T p ∧ zFr [] [(40, 2), (40, 3), (40, 4), (40, 5)] S T) := by
            intro k hk h8
            rw [zs_in, zP_ret]
            refine out _ 0 (zfr_upO (zfr_upO (zFr.mono (by decide) (by decide) f2) (by decide)) (by decide)) ?_ ?_ ?_ (fun z => absurd (hk.symm.trans z) h8)
            · rw [up_same, if_neg (by decide), up_same, if_neg (by decide)]
              exact u4
            · rw [up_same, if_neg (by decide), up_eq, ke]
            · rw [up_eq, hk]
          rw [zif0 g3, if_pos rfl, u2, zl_in (by omega), zs_in]
          by_cases c1 : S 41 p = 40
          · rw [if_pos c1]
            rw [if_pos c1] at kk
            exact last 9 kk (by decide)
          · rw [if_neg c1]
            rw [if_neg c1] at kk
            by_cases c2 : S 41 p = 41
            · rw [if_pos c2]
              rw [if_pos c2] at kk
              exact last 10 kk (by decide)
            · rw [if_neg c2]
              rw [if_neg c2] at kk
              by_cases c3 : S 41 p = 59
              · rw [if_pos c3]
                rw [if_pos c3] at kk
                exact last 11 kk (by decide)
              · rw [if_neg c3]
                rw [if_neg c3] at kk
                exact last 13 kk (by decide)
    · have ke : kEn (S 41) (S 40 1) p = p := by
        unfold kEn
        rw [if_pos (by omega)]
      have kk : kKi (S 41) (S 40 1) p = 12 := by
        unfold kKi
        rw [if_pos (by omega)]
      rw [e_signEnd okU (by omega), zb_some, u1, u2, if_neg g, zs_in, zP_ret]
      refine out _ 0 (zfr_upO (zFr.mono (by decide) (by decide) f2) (by decide)) ?_ ?_ ?_ (fun z => by omega)
      · rw [up_same, if_neg (by decide)]
        exact u4
      · rw [up_same, if_neg (by decide), u2, ke]
      · rw [up_eq, kk]
  rw [L_X9_next_0.eq_2, t1]
  by_cases g : S 40 1 ≤ T 40 2
  · rw [if_pos g]
    exact fin (fun q => by omega)
  · rw [if_neg g, e_signAt okT (by omega) (by omega), zb_some, e_isBlank, zb_some, t41]
    by_cases g2 : kBl (S 41 (T 40 2)) = true
    · rw [zif1 g2, if_neg (by decide), zl_in (by omega), zs_in]
      refine ih _ ⟨zfr_upO f (by decide), ?_, fun i i0 i1 => ?_⟩ ?_
      · rw [up_eq]
        omega
      · rw [up_eq] at i1
        by_cases e : i = T 40 2
        · rw [e]
          exact g2
        · exact hl i i0 (by omega)
      · rw [up_eq]
        omega
    · rw [zif0 g2, if_pos rfl]
      exact fin (fun q => g2 q.2)
end NX
