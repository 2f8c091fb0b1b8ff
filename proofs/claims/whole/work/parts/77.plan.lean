/-! plans: rows given to hands, as numbers -/
def pLo (c : Int → Int → Int) (h : Int) : Nat → Int → Int
  | 0, _ => 0
  | k + 1, N => pLo c h k (N / 3) + if N % 3 = h then c k h else 0
def pVa (sp : Int → Int) : Nat → Int → Prop
  | 0, _ => True
  | k + 1, N => pVa sp k (N / 3) ∧ sp (N % 3) ≠ 0
def pDg : Nat → Int → Int → Int
  | 0, _, _ => 0
  | k + 1, N, j => if j = k then N % 3 else pDg k (N / 3) j
def pAn : Nat → Int → Int
  | 0, N => N
  | d + 1, N => pAn d (N / 3)
def pPw : Nat → Int
  | 0 => 1
  | n + 1 => pPw n * 3
def pTm (c : Int → Int → Int) (k : Nat) (N : Int) : Int := max (pLo c 0 k N) (max (pLo c 1 k N) (pLo c 2 k N))
def gB (c : Int → Int → Int) (sp : Int → Int) (p : Nat) (A : Int → Prop) (B : Int) (bst : Int → Int) (no : Int) : Prop := (B = no ∧ ∀ N : Int, 0 ≤ N → A N → ¬ pVa sp p N) ∨ ∃ M : Int, 0 ≤ M ∧ A M ∧ pVa sp p M ∧ B = pTm c p M ∧ (∀ j : Int, 0 ≤ j → j < p → bst j = pDg p M j) ∧ ∀ N : Int, 0 ≤ N → A N → pVa sp p N → pTm c p M ≤ pTm c p N ∧ (pTm c p N = pTm c p M → M ≤ N)
section PL
variable {c : Int → Int → Int} {sp bst bst' : Int → Int} {A A' : Int → Prop} {B B' no no' : Int} {p : Nat}
theorem pAn_div (d : Nat) : ∀ N : Int, pAn d (N / 3) = pAn d N / 3 := by
  induction d with
  | zero => exact fun _ => rfl
  | succ d ih =>
    intro N
    show pAn d (N / 3 / 3) = pAn d (N / 3) / 3
    rw [ih (N / 3)]
theorem pAn_mono (d : Nat) : ∀ M N : Int, M ≤ N → pAn d M ≤ pAn d N := by
  induction d with
  | zero => exact fun _ _ h => h
  | succ d ih => exact fun M N h => ih (M / 3) (N / 3) (by omega)
theorem pAn_pw (d : Nat) : ∀ N : Int, 0 ≤ N → (pAn d N < 1 ↔ N < pPw d) := by
  induction d with
  | zero =>
    intro N h
    show N < 1 ↔ N < 1
    exact Iff.rfl
  | succ d ih =>
    intro N h
    show pAn d (N / 3) < 1 ↔ N < pPw d * 3
    rw [ih (N / 3) (by omega)]
    omega
theorem pPw_r (n : Nat) (hn : n ≤ 8) : 1 ≤ pPw n ∧ pPw n ≤ 6561 := by
  have e : n = 0 ∨ n = 1 ∨ n = 2 ∨ n = 3 ∨ n = 4 ∨ n = 5 ∨ n = 6 ∨ n = 7 ∨ n = 8 := by omega
  rcases e with rfl | rfl | rfl | rfl | rfl | rfl | rfl | rfl | rfl <;> decide
theorem pLo_nn {h : Int} (hc : ∀ k h : Int, 0 ≤ c k h) (n : Nat) : ∀ N : Int, 0 ≤ pLo c h n N := by
  induction n with
  | zero => exact fun _ => Int.le_refl _
  | succ n ih =>
    intro N
    have a := ih (N / 3)
    have b := hc n h
    unfold pLo
    split <;> omega
theorem pLo_ub {h C : Int} (hC : 0 ≤ C) (n : Nat) (hc : ∀ k : Int, 0 ≤ k → k < n → c k h ≤ C) : ∀ N : Int, pLo c h n N ≤ C * n := by
  induction n with
  | zero =>
    intro N
    show (0 : Int) ≤ C * (0 : Nat)
    simp
  | succ n ih =>
    intro N
    have a := ih (fun k k0 k1 => hc k k0 (by omega)) (N / 3)
    have b := hc n (by omega) (by omega)
    unfold pLo
    rw [show ((n + 1 : Nat) : Int) = (n : Int) + 1 from rfl, Int.mul_add, Int.mul_one]
    split <;> omega
theorem pLo_mono {h : Int} (hc : ∀ k h : Int, 0 ≤ c k h) (n d : Nat) : ∀ N : Int, pLo c h n (pAn d N) ≤ pLo c h (n + d) N := by
  induction d with
  | zero => exact fun _ => Int.le_refl _
  | succ d ih =>
    intro N
    have a := ih (N / 3)
    have b := hc (n + d : Nat) h
    show pLo c h n (pAn d (N / 3)) ≤ pLo c h (n + d) (N / 3) + if N % 3 = h then c (n + d : Nat) h else 0
    split <;> omega
theorem pVa_mono (n d : Nat) : ∀ N : Int, pVa sp (n + d) N → pVa sp n (pAn d N) := by
  induction d with
  | zero => exact fun _ h => h
  | succ d ih => exact fun N h => ih (N / 3) h.1
theorem pTm_mono (hc : ∀ k h : Int, 0 ≤ c k h) (n d : Nat) (N : Int) : pTm c n (pAn d N) ≤ pTm c (n + d) N := by
  have a := pLo_mono (h := 0) hc n d N
  have b := pLo_mono (h := 1) hc n d N
  have e := pLo_mono (h := 2) hc n d N
  unfold pTm
  omega
theorem pLo_3 {h h' P : Int} {n : Nat} (hh : 0 ≤ h ∧ h ≤ 2) : pLo c h' (n + 1) (3 * P + h) = pLo c h' n P + if h = h' then c n h' else 0 := by
  show pLo c h' n ((3 * P + h) / 3) + (if (3 * P + h) % 3 = h' then c n h' else 0) = _
  rw [show (3 * P + h) / 3 = P by omega, show (3 * P + h) % 3 = h by omega]
theorem pTm_3 {h P : Int} {n : Nat} (hh : 0 ≤ h ∧ h ≤ 2) (hc : ∀ k h : Int, 0 ≤ c k h) : pTm c (n + 1) (3 * P + h) = max (pTm c n P) (pLo c h n P + c n h) := by
  have b := hc n h
  unfold pTm
  rw [pLo_3 hh, pLo_3 hh, pLo_3 hh]
  have h3 : h = 0 ∨ h = 1 ∨ h = 2 := by omega
  rcases h3 with rfl | rfl | rfl
  · rw [if_pos rfl, if_neg (by decide), if_neg (by decide)]
    omega
  · rw [if_neg (by decide), if_pos rfl, if_neg (by decide)]
    omega
  · rw [if_neg (by decide), if_neg (by decide), if_pos rfl]
    omega
theorem pVa_3 {h P : Int} {n : Nat} (hh : 0 ≤ h ∧ h ≤ 2) : pVa sp (n + 1) (3 * P + h) ↔ pVa sp n P ∧ sp h ≠ 0 := by
  show pVa sp n ((3 * P + h) / 3) ∧ sp ((3 * P + h) % 3) ≠ 0 ↔ _
  rw [show (3 * P + h) / 3 = P by omega, show (3 * P + h) % 3 = h by omega]
theorem pDg_3 {h P j : Int} {n : Nat} (hh : 0 ≤ h ∧ h ≤ 2) : pDg (n + 1) (3 * P + h) j = if j = n then h else pDg n P j := by
  show (if j = n then (3 * P + h) % 3 else pDg n ((3 * P + h) / 3) j) = _
  rw [show (3 * P + h) / 3 = P by omega, show (3 * P + h) % 3 = h by omega]
theorem gB.cong (hb : gB c sp p A B bst no) (hA : ∀ N : Int, 0 ≤ N → (A N ↔ A' N)) (hbs : ∀ j : Int, 0 ≤ j → j < p → bst' j = bst j) : gB c sp p A' B bst' no := by
  rcases hb with ⟨a, b⟩ | ⟨M, m0, m1, m2, m3, m4, m5⟩
  · exact Or.inl ⟨a, fun N n0 n1 => b N n0 ((hA N n0).mpr n1)⟩
  · exact Or.inr ⟨M, m0, (hA M m0).mp m1, m2, m3, fun j j0 j1 => by rw [hbs j j0 j1]; exact m4 j j0 j1, fun N n0 n1 => m5 N n0 ((hA N n0).mpr n1)⟩
theorem gB.more (hb : gB c sp p A B bst no) (hA : ∀ N : Int, 0 ≤ N → A N → A' N) (hn : ∀ N : Int, 0 ≤ N → A' N → ¬ A N → pVa sp p N → B ≠ no ∧ B ≤ pTm c p N ∧ ∀ M : Int, A M → M ≤ N) : gB c sp p A' B bst no := by
  rcases hb with ⟨a, b⟩ | ⟨M, m0, m1, m2, m3, m4, m5⟩
  · refine Or.inl ⟨a, fun N n0 n1 v => ?_⟩
    by_cases q : A N
    · exact b N n0 q v
    · exact (hn N n0 n1 q v).1 a
  · refine Or.inr ⟨M, m0, hA M m0 m1, m2, m3, m4, fun N n0 n1 v => ?_⟩
    by_cases q : A N
    · exact m5 N n0 q v
    · have z := hn N n0 n1 q v
      rw [m3] at z
      exact ⟨z.2.1, fun _ => z.2.2 M m1⟩
theorem gB.set {P : Int} (hb : gB c sp p A B bst no) (hP : 0 ≤ P) (hA' : ∀ N : Int, 0 ≤ N → (A' N ↔ A N ∨ N = P)) (hv : pVa sp p P) (hB : B = no ∧ (∀ N : Int, 0 ≤ N → A N → ¬ pVa sp p N) ∨ pTm c p P < B) (hd : ∀ j : Int, 0 ≤ j → j < p → bst' j = pDg p P j) : gB c sp p A' (pTm c p P) bst' no' := by
  refine Or.inr ⟨P, hP, (hA' P hP).mpr (Or.inr rfl), hv, rfl, hd, fun N n0 n1 v => ?_⟩
  rcases (hA' N n0).mp n1 with q | q
  · rcases hb with ⟨a, b⟩ | ⟨M, m0, m1, m2, m3, m4, m5⟩
    · exact absurd v (b N n0 q)
    · have z := m5 N n0 q v
      rcases hB with ⟨x, y⟩ | x
      · exact absurd v (y N n0 q)
      · rw [m3] at x
        exact ⟨by omega, fun e => by omega⟩
  · rw [q]
    exact ⟨Int.le_refl _, fun _ => Int.le_refl _⟩
theorem gB.one {B2 no2 : Int} {bst2 : Int → Int} (hb : gB c sp p A B bst no) (hb2 : gB c sp p A B2 bst2 no2) (h0 : A 0) (hv : pVa sp p 0) : B = B2 ∧ ∀ j : Int, 0 ≤ j → j < p → bst j = bst2 j := by
  rcases hb with ⟨a, b⟩ | ⟨M, m0, m1, m2, m3, m4, m5⟩
  · exact absurd hv (b 0 (Int.le_refl _) h0)
  · rcases hb2 with ⟨a, b⟩ | ⟨M2, k0, k1, k2, k3, k4, k5⟩
    · exact absurd hv (b 0 (Int.le_refl _) h0)
    · have x := m5 M2 k0 k1 k2
      have y := k5 M m0 m1 m2
      have e : M = M2 := by
        have := x.2 (by omega)
        have := y.2 (by omega)
        omega
      subst e
      exact ⟨by rw [m3, k3], fun j j0 j1 => by rw [m4 j j0 j1, k4 j j0 j1]⟩
theorem pVa_0 (h : sp 0 ≠ 0) (n : Nat) : pVa sp n 0 := by
  induction n with
  | zero => trivial
  | succ n ih => exact ⟨ih, h⟩
end PL
