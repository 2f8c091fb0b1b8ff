/-! tokens: what is on the tape -/
def kBl (c : Int) : Bool := c == 10 || c == 32
def kLe (c : Int) : Bool := decide (97 ≤ c) && decide (c ≤ 122)
def kDi (c : Int) : Bool := decide (48 ≤ c) && decide (c ≤ 57)
theorem kBl_t {c : Int} : kBl c = true ↔ c = 10 ∨ c = 32 := by
  unfold kBl
  simp
theorem kLe_t {c : Int} : kLe c = true ↔ 97 ≤ c ∧ c ≤ 122 := by
  unfold kLe
  simp
theorem kDi_t {c : Int} : kDi c = true ↔ 48 ≤ c ∧ c ≤ 57 := by
  unfold kDi
  simp
def scn (b : Int → Bool) (t : Int → Int) (n : Int) : Nat → Int → Int
  | 0, a => a
  | f + 1, a => if a < n ∧ b (t a) = true then scn b t n f (a + 1) else a
theorem scn_eq {b : Int → Bool} {t : Int → Int} {n r : Int} (he : ¬ (r < n ∧ b (t r) = true)) : ∀ (f : Nat) (a : Int), a ≤ r → (∀ i : Int, a ≤ i → i < r → i < n ∧ b (t i) = true) → (r - a).toNat < f → scn b t n f a = r := by
  intro f
  induction f with
  | zero =>
    intro a _ _ h
    exact absurd h (Nat.not_lt_zero _)
  | succ f ih =>
    intro a h1 h2 h3
    unfold scn
    by_cases g : a = r
    · subst g
      rw [if_neg he]
    · rw [if_pos (h2 a (Int.le_refl _) (by omega))]
      exact ih (a + 1) (by omega) (fun i i0 i1 => h2 i (by omega) i1) (by omega)
theorem scn_sp {b : Int → Bool} {t : Int → Int} {n : Int} : ∀ (f : Nat) (a : Int), (n - a).toNat < f → a ≤ scn b t n f a ∧ (∀ i : Int, a ≤ i → i < scn b t n f a → i < n ∧ b (t i) = true) ∧ ¬ (scn b t n f a < n ∧ b (t (scn b t n f a)) = true) := by
  intro f
  induction f with
  | zero =>
    intro a h
    exact absurd h (Nat.not_lt_zero _)
  | succ f ih =>
    intro a h
    unfold scn
    by_cases g : a < n ∧ b (t a) = true
    · rw [if_pos g]
      obtain ⟨x1, x2, x3⟩ := ih (a + 1) (by omega)
      refine ⟨by omega, fun i i0 i1 => ?_, x3⟩
      by_cases e : i = a
      · rw [e]
        exact g
      · exact x2 i (by omega) i1
    · rw [if_neg g]
      exact ⟨Int.le_refl _, fun i i0 i1 => by omega, g⟩
theorem scn_le {b : Int → Bool} {t : Int → Int} {n a : Int} (f : Nat) (h : (n - a).toNat < f) (ha : a ≤ n) : scn b t n f a ≤ n := by
  obtain ⟨x1, x2, x3⟩ := scn_sp (b := b) (t := t) f a h
  by_cases g : scn b t n f a ≤ n
  · exact g
  · have := x2 (scn b t n f a - 1) (by omega) (by omega)
    omega
def wVa (t : Int → Int) (p : Int) : Nat → Int
  | 0 => 0
  | k + 1 => 37 * wVa t p k + (t (p + k) - 96)
def dVa (t : Int → Int) (p : Int) : Nat → Int
  | 0 => 0
  | k + 1 => 10 * dVa t p k + t (p + k) - 48
def kWo (v : Int) : Int := if v = 793 then 0 else if v = 224012 then 1 else if v = 614923 then 2 else if v = 34200674 then 3 else if v = 812503 then 4 else if v = 25220 then 5 else if v = 2230448 then 6 else if v = 919275859 then 7 else 13
def kEn (t : Int → Int) (n p : Int) : Int := if n ≤ p then p else if kLe (t p) = true then scn kLe t n 1001 p else if kDi (t p) = true then scn kDi t n 1001 p else p + 1
def kKi (t : Int → Int) (n p : Int) : Int := if n ≤ p then 12 else if kLe (t p) = true then (if kEn t n p - p ≤ 8 then kWo (wVa t p (kEn t n p - p).toNat) else 13) else if kDi (t p) = true then (if kEn t n p - p ≤ 2 then 8 else 13) else if t p = 40 then 9 else if t p = 41 then 10 else if t p = 59 then 11 else 13
def kVa (t : Int → Int) (n p : Int) : Int := dVa t p (kEn t n p - p).toNat
def tP (t : Int → Int) (n : Int) : Nat → Int
  | 0 => scn kBl t n 1001 0
  | i + 1 => scn kBl t n 1001 (kEn t n (tP t n i))
section TK
variable {t : Int → Int} {n p : Int}
theorem kWo_r {v : Int} : 0 ≤ kWo v ∧ (kWo v ≤ 7 ∨ kWo v = 13) := by
  unfold kWo
  repeat' split
  all_goals omega
theorem kEn_r (h0 : 0 ≤ p) (h1 : p ≤ n) (hn : n ≤ 1000) : p ≤ kEn t n p ∧ kEn t n p ≤ n ∧ (p < n → p < kEn t n p) := by
  unfold kEn
  by_cases g : n ≤ p
  · rw [if_pos g]
    omega
  · rw [if_neg g]
    by_cases g2 : kLe (t p) = true
    · rw [if_pos g2]
      have l := scn_le (b := kLe) (t := t) (n := n) (a := p) 1001 (by omega) h1
      obtain ⟨x1, x2, x3⟩ := scn_sp (b := kLe) (t := t) (n := n) 1001 p (by omega)
      refine ⟨x1, l, fun _ => ?_⟩
      by_cases e : scn kLe t n 1001 p = p
      · rw [e] at x3
        exact absurd ⟨by omega, g2⟩ x3
      · omega
    · rw [if_neg g2]
      by_cases g3 : kDi (t p) = true
      · rw [if_pos g3]
        have l := scn_le (b := kDi) (t := t) (n := n) (a := p) 1001 (by omega) h1
        obtain ⟨x1, x2, x3⟩ := scn_sp (b := kDi) (t := t) (n := n) 1001 p (by omega)
        refine ⟨x1, l, fun _ => ?_⟩
        by_cases e : scn kDi t n 1001 p = p
        · rw [e] at x3
          exact absurd ⟨by omega, g3⟩ x3
        · omega
      · rw [if_neg g3]
        omega
theorem tP_r (h0 : 0 ≤ n) (hn : n ≤ 1000) (i : Nat) : 0 ≤ tP t n i ∧ tP t n i ≤ n ∧ (tP t n i < n → kBl (t (tP t n i)) = false) := by
  have sk : ∀ a : Int, 0 ≤ a → a ≤ n → 0 ≤ scn kBl t n 1001 a ∧ scn kBl t n 1001 a ≤ n ∧ (scn kBl t n 1001 a < n → kBl (t (scn kBl t n 1001 a)) = false) := by
    intro a a0 a1
    obtain ⟨x1, x2, x3⟩ := scn_sp (b := kBl) (t := t) (n := n) 1001 a (by omega)
    refine ⟨by omega, scn_le 1001 (by omega) a1, fun q => ?_⟩
    cases e : kBl (t (scn kBl t n 1001 a)) with
    | false => rfl
    | true => exact absurd ⟨q, e⟩ x3
  induction i with
  | zero => exact sk 0 (Int.le_refl _) h0
  | succ i ih =>
    have := kEn_r (t := t) (n := n) (p := tP t n i) ih.1 ih.2.1 hn
    exact sk _ (by omega) this.2.1
theorem tP_s (h0 : 0 ≤ n) (hn : n ≤ 1000) (i : Nat) : kEn t n (tP t n i) ≤ tP t n (i + 1) := by
  have a := tP_r (t := t) h0 hn i
  have b := kEn_r (t := t) (n := n) (p := tP t n i) a.1 a.2.1 hn
  exact (scn_sp (b := kBl) (t := t) (n := n) 1001 _ (by omega)).1
/-- each token takes at least one sign -/
theorem tP_i (h0 : 0 ≤ n) (hn : n ≤ 1000) (i : Nat) : tP t n i < n → (i : Int) ≤ tP t n i := by
  induction i with
  | zero =>
    intro _
    exact (tP_r h0 hn 0).1
  | succ i ih =>
    intro h
    have a := tP_r (t := t) h0 hn i
    have b := kEn_r (t := t) (n := n) (p := tP t n i) a.1 a.2.1 hn
    have c := tP_s (t := t) h0 hn i
    have := ih (by omega)
    have := b.2.2 (by omega)
    omega
/-- words, as numbers -/
def wl : List Int → Int
  | [] => 0
  | c :: r => 37 * wl r + c
def wm (t : Int → Int) (p : Int) : List Int → Prop
  | [] => True
  | c :: r => t (p + r.length) = c + 96 ∧ wm t p r
theorem wl_nn : ∀ (r : List Int), (∀ c ∈ r, 1 ≤ c ∧ c ≤ 26) → 0 ≤ wl r := by
  intro r
  induction r with
  | nil => exact fun _ => Int.le_refl _
  | cons c r ih =>
    intro h
    have := ih (fun c hc => h c (List.mem_cons_of_mem _ hc))
    have := h c (List.mem_cons_self)
    unfold wl
    omega
theorem wl_dec : ∀ (r : List Int), (∀ c ∈ r, 1 ≤ c ∧ c ≤ 26) → ∀ (L : Nat), (∀ j : Nat, j < L → 97 ≤ t (p + j) ∧ t (p + j) ≤ 122) → (wVa t p L = wl r ↔ L = r.length ∧ wm t p r) := by
  intro r
  induction r with
  | nil =>
    intro _ L hL
    cases L with
    | zero => exact ⟨fun _ => ⟨rfl, trivial⟩, fun _ => rfl⟩
    | succ k =>
      refine ⟨fun h => ?_, fun h => absurd h.1 (by simp)⟩
      have c := hL k (by omega)
      have nn : ∀ m : Nat, m ≤ k → 0 ≤ wVa t p m := by
        intro m
        induction m with
        | zero => exact fun _ => Int.le_refl _
        | succ m ihm =>
          intro hm
          have := ihm (by omega)
          have := hL m (by omega)
          unfold wVa
          omega
      have := nn k (Nat.le_refl _)
      have e : wVa t p (k + 1) = 37 * wVa t p k + (t (p + k) - 96) := rfl
      have e0 : wl [] = 0 := rfl
      omega
  | cons c r ih =>
    intro hr L hL
    have hc := hr c (List.mem_cons_self)
    have hr' := fun c' h => hr c' (List.mem_cons_of_mem c h)
    have wn := wl_nn r hr'
    have e1 : wl (c :: r) = 37 * wl r + c := rfl
    cases L with
    | zero =>
      refine ⟨fun h => ?_, fun h => absurd h.1 (by simp)⟩
      have e0 : wVa t p 0 = 0 := rfl
      omega
    | succ k =>
      have i := ih hr' k (fun j hj => hL j (by omega))
      have cc := hL k (by omega)
      have e : wVa t p (k + 1) = 37 * wVa t p k + (t (p + k) - 96) := rfl
      rw [e, e1]
      constructor
      · intro h
        have h1 : wVa t p k = wl r := by omega
        have h2 := i.mp h1
        refine ⟨by rw [h2.1]; rfl, ?_, h2.2⟩
        rw [← h2.1]
        omega
      · intro h
        have h1 : k = r.length := by
          have := h.1
          simpa using this
        have h2 := i.mpr ⟨h1, h.2.2⟩
        have h3 := h.2.1
        rw [← h1] at h3
        omega
end TK
