/-! what a laid function gives, as a condition on its start -/
def zP (m : zO2) (Q : Int → HS → Prop) : Prop := ∃ (r : Int) (S : HS), m = some (r, S) ∧ Q r S
theorem zP_ret {v : Int} {S : HS} {Q : Int → HS → Prop} : zP (some (v, S)) Q ↔ Q v S := by
  refine ⟨?_, fun q => ⟨_, _, rfl, q⟩⟩
  rintro ⟨r, T, h, q⟩
  obtain ⟨rfl, rfl⟩ := Prod.mk.inj (Option.some.inj h)
  exact q
theorem zP_none {Q : Int → HS → Prop} : zP none Q ↔ False := ⟨fun h => (by obtain ⟨_, _, h, _⟩ := h; cases h), False.elim⟩
theorem zP_zl {v : Int} {f : Int → zO2} {Q : Int → HS → Prop} : zP (zl v f) Q ↔ (-2147483648 ≤ v ∧ v < 2147483648) ∧ zP (f v) Q := by
  unfold zl
  split
  · rename_i c
    exact ⟨fun h => ⟨c, h⟩, fun h => h.2⟩
  · rename_i c
    exact ⟨fun h => (zP_none.mp h).elim, fun h => absurd h.1 c⟩
theorem zP_zl6 {v : Int} {f : Int → zO2} {Q : Int → HS → Prop} : zP (zl6 v f) Q ↔ (-9223372036854775808 ≤ v ∧ v < 9223372036854775808) ∧ zP (f v) Q := by
  unfold zl6
  split
  · rename_i c
    exact ⟨fun h => ⟨c, h⟩, fun h => h.2⟩
  · rename_i c
    exact ⟨fun h => (zP_none.mp h).elim, fun h => absurd h.1 c⟩
theorem zP_zg {p : Prop} [Decidable p] {f : zO2} {Q : Int → HS → Prop} : zP (zg p f) Q ↔ p ∧ zP f Q := by
  unfold zg
  split
  · rename_i c
    exact ⟨fun h => ⟨c, h⟩, fun h => h.2⟩
  · rename_i c
    exact ⟨fun h => (zP_none.mp h).elim, fun h => absurd h.1 c⟩
theorem zP_zs {S : HS} {f : HS → zO2} {Q : Int → HS → Prop} : zP (zs S f) Q ↔ zP (f S) Q := Iff.rfl
theorem zP_zb {m : zO2} {f : Int → HS → zO2} {Q : Int → HS → Prop} : zP (zb m f) Q ↔ zP m (fun r S => zP (f r S) Q) := by
  cases m with
  | none => exact ⟨fun h => (zP_none.mp h).elim, fun h => (zP_none.mp h).elim⟩
  | some q =>
    show zP (f q.1 q.2) Q ↔ _
    exact (zP_ret (v := q.1) (S := q.2) (Q := fun r S => zP (f r S) Q)).symm
theorem zP_ite {p : Prop} [Decidable p] {a b : zO2} {Q : Int → HS → Prop} : zP (if p then a else b) Q ↔ (p → zP a Q) ∧ (¬ p → zP b Q) := by
  split
  · rename_i c
    exact ⟨fun h => ⟨fun _ => h, fun d => absurd c d⟩, fun h => h.1 c⟩
  · rename_i c
    exact ⟨fun h => ⟨fun d => absurd d c, fun _ => h⟩, fun h => h.2 c⟩
theorem zP_mono {m : zO2} {Q Q' : Int → HS → Prop} (h : zP m Q) (k : ∀ r S, Q r S → Q' r S) : zP m Q' := by
  obtain ⟨r, S, e, q⟩ := h
  exact ⟨r, S, e, k r S q⟩
theorem zP_of {m : zO2} {r : Int} {S : HS} (e : m = some (r, S)) {Q : Int → HS → Prop} : zP m Q ↔ Q r S := by
  rw [e]
  exact zP_ret
theorem zP_W {A : List Nat} {O : List (Nat × Int)} {B : Int → Prop} {S : HS} {m : zO2} {Q : Int → HS → Prop} (w : zW A O B S m) (h : zP m Q) : zP m (fun r T => Q r T ∧ B r ∧ WR shF T ∧ zFr A O S T) := by
  obtain ⟨r, T, e, q⟩ := h
  exact ⟨r, T, e, q, w r T e⟩
/-- a loop over one number, to a bound -/
theorem zloop {F : Nat → Int → HS → zO2} {b : Int} {Q : Int → HS → Prop} (I : Int → HS → Prop) (hend : ∀ n v S, I v S → b ≤ v → zP (F (n + 1) v S) Q) (hstep : ∀ n v S, I v S → v < b → (∀ S', I (v + 1) S' → zP (F n (v + 1) S') Q) → zP (F (n + 1) v S) Q) : ∀ (n : Nat) (v : Int) (S : HS), I v S → (b - v).toNat < n → zP (F n v S) Q := by
  intro n
  induction n with
  | zero =>
    intro v S _ h
    exact absurd h (Nat.not_lt_zero _)
  | succ n ih =>
    intro v S hI hn
    by_cases c : b ≤ v
    · exact hend n v S hI c
    · refine hstep n v S hI (by omega) (fun S' hI' => ih (v + 1) S' hI' (by omega))
/-- the same over two numbers, the second of which counts -/
theorem zloop2 {F : Nat → Int → Int → HS → zO2} {b : Int} {Q : Int → HS → Prop} (I : Int → Int → HS → Prop) (hend : ∀ n w v S, I w v S → b ≤ v → zP (F (n + 1) w v S) Q) (hstep : ∀ n w v S, I w v S → v < b → (∀ w' S', I w' (v + 1) S' → zP (F n w' (v + 1) S') Q) → zP (F (n + 1) w v S) Q) : ∀ (n : Nat) (w v : Int) (S : HS), I w v S → (b - v).toNat < n → zP (F n w v S) Q := by
  intro n
  induction n with
  | zero =>
    intro w v S _ h
    exact absurd h (Nat.not_lt_zero _)
  | succ n ih =>
    intro w v S hI hn
    by_cases c : b ≤ v
    · exact hend n w v S hI c
    · refine hstep n w v S hI (by omega) (fun w' S' hI' => ih w' (v + 1) S' hI' (by omega))
/-- a loop with a measure of its own -/
theorem zloopM {α : Type} {F : Nat → α → zO2} {Q : Int → HS → Prop} (I : α → Prop) (μ : α → Nat) (hstep : ∀ n x, I x → (∀ y, I y → μ y < μ x → zP (F n y) Q) → zP (F (n + 1) x) Q) : ∀ (n : Nat) (x : α), I x → μ x < n → zP (F n x) Q := by
  intro n
  induction n with
  | zero =>
    intro x _ h
    exact absurd h (Nat.not_lt_zero _)
  | succ n ih =>
    intro x hI hn
    exact hstep n x hI (fun y hy hm => ih y hy (by omega))
/-! sums -/
def zsum (f : Int → Int) : Nat → Int
  | 0 => 0
  | n + 1 => zsum f n + f n
theorem zsum_s {f : Int → Int} {n : Nat} : zsum f (n + 1) = zsum f n + f n := rfl
theorem zsum_congr {f g : Int → Int} {n : Nat} (h : ∀ i : Int, 0 ≤ i → i < n → f i = g i) : zsum f n = zsum g n := by
  induction n with
  | zero => rfl
  | succ n ih => rw [zsum_s, zsum_s, ih (fun i a b => h i a (by omega)), h n (by omega) (by omega)]
theorem zsum_0 {f : Int → Int} {n : Nat} (h : ∀ i : Int, 0 ≤ i → i < n → f i = 0) : zsum f n = 0 := by
  induction n with
  | zero => rfl
  | succ n ih => rw [zsum_s, ih (fun i a b => h i a (by omega)), h n (by omega) (by omega)]; rfl
theorem zsum_le {f g : Int → Int} {n : Nat} (h : ∀ i : Int, 0 ≤ i → i < n → f i ≤ g i) : zsum f n ≤ zsum g n := by
  induction n with
  | zero => exact Int.le_refl _
  | succ n ih =>
    rw [zsum_s, zsum_s]
    have := ih (fun i a b => h i a (by omega))
    have := h n (by omega) (by omega)
    omega
theorem zsum_bd {f : Int → Int} {n : Nat} {c : Int} (h : ∀ i : Int, 0 ≤ i → i < n → 0 ≤ f i ∧ f i ≤ c) : 0 ≤ zsum f n ∧ zsum f n ≤ c * n := by
  induction n with
  | zero => exact ⟨Int.le_refl _, by simp [zsum]⟩
  | succ n ih =>
    have h1 := ih (fun i a b => h i a (by omega))
    have h2 := h n (by omega) (by omega)
    rw [zsum_s, show ((n + 1 : Nat) : Int) = (n : Int) + 1 from rfl, Int.mul_add, Int.mul_one]
    omega
theorem zsum_add {f g : Int → Int} {n : Nat} : zsum (fun i => f i + g i) n = zsum f n + zsum g n := by
  induction n with
  | zero => rfl
  | succ n ih =>
    rw [zsum_s, zsum_s, zsum_s, ih]
    omega
theorem zsum_one {f : Int → Int} {n : Nat} {a : Int} (h0 : 0 ≤ a) (hn : a < n) (h : ∀ i : Int, 0 ≤ i → i < n → i ≠ a → f i = 0) : zsum f n = f a := by
  induction n with
  | zero => omega
  | succ n ih =>
    rw [zsum_s]
    by_cases e : a = n
    · rw [zsum_0 (fun i x y => h i x (by omega) (by omega)), e]
      omega
    · rw [ih (by omega) (fun i x y z => h i x (by omega) z), h n (by omega) (by omega) (fun x => e x.symm)]
      omega
theorem zbig {x : Int} (h : x ≤ 100000) : x.toNat < zBig := by
  unfold zBig
  omega
theorem up_ne {h : HS} {c c' : Nat} {i v i' : Int} (hc : (c' == c) = false) : up h c i v c' i' = h c' i' := up_cell h (by simpa using hc) i v i'
theorem up_nf {h : HS} {c : Nat} {i v i' : Int} (hc : (i' == i) = false) : up h c i v c i' = h c i' := by
  rw [up_same, if_neg (by simpa using hc)]
theorem zif1 {p : Prop} [Decidable p] (h : p) : (if p then (1 : Int) else 0) = 1 := if_pos h
theorem zif0 {p : Prop} [Decidable p] (h : ¬ p) : (if p then (1 : Int) else 0) = 0 := if_neg h
