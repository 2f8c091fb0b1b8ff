/-! what holds between calls -/
def cel (S : HS) (r k : Int) : Int := S 8 (S 9 r + k)
def iLen (S : HS) : Prop := S 51 37 = S 1 1 ∧ 20 ≤ S 1 1 ∧ S 1 1 ≤ 2000 ∧ S 51 38 = S 1 2 ∧ 0 ≤ S 1 2 ∧ S 1 2 ≤ 99
def iTape (S : HS) : Prop := S 51 2 = S 40 1 ∧ 0 ≤ S 40 1 ∧ S 40 1 ≤ 1000 ∧ ∀ i : Int, 0 ≤ i → i < S 40 1 → S 52 i = S 41 i ∧ (S 41 i = 10 ∨ 32 ≤ S 41 i ∧ S 41 i ≤ 126)
def iWords (S : HS) : Prop := S 56 0 = 812503 ∧ S 56 1 = 25220 ∧ S 56 2 = 2230448 ∧ S 56 3 = 919275859 ∧ S 56 4 = 793 ∧ S 56 5 = 224012 ∧ S 56 6 = 614923 ∧ S 56 7 = 34200674
def iPart (S : HS) : Prop := rHP S ∧ S 51 22 = S 3 3 ∧ 0 ≤ S 3 3 ∧ S 3 3 ≤ 60
def iRow (S : HS) : Prop := (S 51 27 = S 7 11 ∧ 0 ≤ S 7 11 ∧ S 7 11 ≤ 24 ∧ (0 < S 7 11 → S 9 0 = 0)) ∧ (∀ r : Int, 0 ≤ r → r < S 7 11 → S 69 r = S 10 r ∧ 2 ≤ S 10 r ∧ 0 ≤ S 9 r ∧ S 9 r + S 10 r ≤ 192 ∧ (r + 1 < S 7 11 → S 9 (r + 1) = S 9 r + S 10 r)) ∧ (∀ r k : Int, 0 ≤ r → r < S 7 11 → 0 ≤ k → k < S 10 r → S 70 (192 * r + k) = cel S r k ∧ 0 ≤ cel S r k ∧ cel S r k < 192 ∧ S 11 (cel S r k) = 200 * r + k ∧ 0 ≤ S 2 (cel S r k)) ∧ (∀ c : Int, 0 ≤ c → c < 192 → (S 11 c = -1 ∧ S 68 c = -1) ∨ ∃ r k : Int, 0 ≤ r ∧ r < S 7 11 ∧ 0 ≤ k ∧ k < S 10 r ∧ S 11 c = 200 * r + k ∧ S 68 c = r ∧ cel S r k = c)
def cRow (S : HS) : Prop := (0 ≤ S 7 11 ∧ S 7 11 ≤ 24 ∧ (0 < S 7 11 → S 9 0 = 0)) ∧ (∀ r : Int, 0 ≤ r → r < S 7 11 → 2 ≤ S 10 r ∧ 0 ≤ S 9 r ∧ S 9 r + S 10 r ≤ 192 ∧ (r + 1 < S 7 11 → S 9 (r + 1) = S 9 r + S 10 r)) ∧ (∀ r k : Int, 0 ≤ r → r < S 7 11 → 0 ≤ k → k < S 10 r → 0 ≤ cel S r k ∧ cel S r k < 192 ∧ S 11 (cel S r k) = 200 * r + k ∧ 0 ≤ S 2 (cel S r k)) ∧ (∀ c : Int, 0 ≤ c → c < 192 → S 11 c = -1 ∨ ∃ r k : Int, 0 ≤ r ∧ r < S 7 11 ∧ 0 ≤ k ∧ k < S 10 r ∧ S 11 c = 200 * r + k ∧ cel S r k = c)
def cHair (S : HS) : Prop := ∀ c : Int, 0 ≤ c → c < 192 → -1 ≤ S 2 c ∧ S 2 c ≤ 99
def mRow (S : HS) : Prop := S 51 27 = S 7 11 ∧ (∀ r : Int, 0 ≤ r → r < S 7 11 → S 69 r = S 10 r) ∧ (∀ r k : Int, 0 ≤ r → r < S 7 11 → 0 ≤ k → k < S 10 r → S 70 (192 * r + k) = cel S r k) ∧ (∀ c : Int, 0 ≤ c → c < 192 → (S 11 c = -1 ∧ S 68 c = -1) ∨ (0 ≤ S 11 c ∧ S 68 c = S 11 c / 200))
theorem iRow.c {S : HS} (h : iRow S) : cRow S := by
  obtain ⟨a, b, c, d⟩ := h
  refine ⟨a.2, fun r h0 h1 => (b r h0 h1).2, fun r k h0 h1 h2 h3 => (c r k h0 h1 h2 h3).2, fun e h0 h1 => ?_⟩
  rcases d e h0 h1 with x | ⟨r, k, x1, x2, x3, x4, x5, x6, x7⟩
  · exact Or.inl x.1
  · exact Or.inr ⟨r, k, x1, x2, x3, x4, x5, x7⟩
theorem iRow.m {S : HS} (h : iRow S) : mRow S := by
  obtain ⟨a, b, c, d⟩ := h
  refine ⟨a.1, fun r h0 h1 => (b r h0 h1).1, fun r k h0 h1 h2 h3 => (c r k h0 h1 h2 h3).1, fun e h0 h1 => ?_⟩
  rcases d e h0 h1 with x | ⟨r, k, x1, x2, x3, x4, x5, x6, x7⟩
  · exact Or.inl x
  · have := b r x1 x2
    exact Or.inr ⟨by omega, by omega⟩
theorem iRow.mk {S : HS} (h : cRow S) (m : mRow S) : iRow S := by
  obtain ⟨a, b, c, d⟩ := h
  obtain ⟨a', b', c', d'⟩ := m
  refine ⟨⟨a', a⟩, fun r h0 h1 => ⟨b' r h0 h1, b r h0 h1⟩, fun r k h0 h1 h2 h3 => ⟨c' r k h0 h1 h2 h3, c r k h0 h1 h2 h3⟩, fun e h0 h1 => ?_⟩
  rcases d e h0 h1 with x | ⟨r, k, x1, x2, x3, x4, x5, x6⟩
  · rcases d' e h0 h1 with y | y
    · exact Or.inl y
    · omega
  · rcases d' e h0 h1 with y | y
    · omega
    · have := b r x1 x2
      exact Or.inr ⟨r, k, x1, x2, x3, x4, x5, by omega, x6⟩
def iMark (S : HS) : Prop := (∀ r : Int, 0 ≤ r → r < S 7 11 → S 71 r = S 15 r ∧ -1 ≤ S 15 r ∧ S 15 r ≤ S 1 2 ∧ S 72 r = S 14 r ∧ -1 ≤ S 14 r ∧ S 14 r < S 7 12) ∧ S 51 54 = S 7 12 ∧ 0 ≤ S 7 12 ∧ 3 * S 7 12 = zsum (fun r => if 0 ≤ S 14 r then 1 else 0) (S 7 11).toNat
def iAdd (S : HS) : Prop := (S 51 43 = S 23 4 ∧ 0 ≤ S 23 4 ∧ S 23 4 ≤ 60) ∧ (∀ i : Int, 0 ≤ i → i < S 23 4 → (S 79 i = S 24 i ∧ S 80 i = S 25 i ∧ S 81 i = S 26 i ∧ S 82 i = S 27 i) ∧ 0 ≤ S 24 i ∧ S 24 i < S 7 11 ∧ 0 ≤ S 25 i ∧ S 25 i < S 10 (S 24 i) ∧ 1 ≤ S 26 i ∧ S 26 i ≤ 99 ∧ 20 ≤ S 27 i ∧ S 27 i ≤ 2000) ∧ (∀ c : Int, 0 ≤ c → c < 192 → S 12 c = zsum (fun i => if cel S (S 24 i) (S 25 i) = c then S 26 i else 0) (S 23 4).toNat) ∧ (∀ r : Int, 0 ≤ r → r < S 7 11 → S 13 r = zsum (fun i => if S 24 i = r then 1 else 0) (S 23 4).toNat)
def iProg (S : HS) : Prop := (S 51 34 = S 45 6 ∧ 0 ≤ S 45 6 ∧ S 45 6 ≤ S 3 3 + S 7 11) ∧ (∀ i : Int, 0 ≤ i → i < S 45 6 → S 73 i = S 49 i ∧ S 74 i = S 50 i ∧ 0 ≤ S 49 i ∧ S 49 i ≤ S 3 3 ∧ 0 ≤ S 50 i ∧ S 50 i ≤ S 7 11 ∧ i ≤ S 49 i + S 50 i ∧ (∀ j : Int, 0 ≤ j → j < i → S 49 j ≤ S 49 i ∧ S 50 j ≤ S 50 i))
def iCrew (S : HS) : Prop := (∀ j : Int, 0 ≤ j → j < 3 → S 89 j = S 34 j ∧ 0 ≤ S 34 j ∧ S 34 j ≤ 3) ∧ 1 ≤ S 34 0
/-- one is led from c to d by open sides -/
def gRch (h p : Int → Int) (c d : Int) : Prop := ∀ g : Int → Int, (∀ e w : Int, gScalp h e → 0 ≤ w → w < 4 → gOpn h p e w ≠ -1 → g (gOpn h p e w) = g e) → g d = g c
/-- f names the regions -/
def gReg (h p f : Int → Int) : Prop := (∀ c : Int, 0 ≤ c → c < 192 → h c = -1 → f c = -1) ∧ (∀ c : Int, gScalp h c → 0 ≤ f c ∧ f c ≤ c ∧ gRch h p c (f c)) ∧ (∀ c w : Int, gScalp h c → 0 ≤ w → w < 4 → gOpn h p c w ≠ -1 → f (gOpn h p c w) = f c)
/-- tk takes, a being how far -/
def gTak (h p pl a tk : Int → Int) : Prop := ∀ c : Int, gScalp h c → (pl c ≠ -1 → a c = 0 ∧ tk c = pl c) ∧ (pl c = -1 → (a c = -1 ∧ tk c = -2 ∧ ∀ w : Int, 0 ≤ w → w < 4 → gOpn h p c w ≠ -1 → a (gOpn h p c w) = -1) ∨ (1 ≤ a c ∧ (∃ w : Int, 0 ≤ w ∧ w < 4 ∧ gOpn h p c w ≠ -1 ∧ a (gOpn h p c w) = a c - 1 ∧ tk (gOpn h p c w) = tk c) ∧ ∀ w : Int, 0 ≤ w → w < 4 → gOpn h p c w ≠ -1 → a (gOpn h p c w) = -1 ∨ a c ≤ a (gOpn h p c w) ∨ (a (gOpn h p c w) = a c - 1 ∧ tk c ≤ tk (gOpn h p c w))))
def iReg (S : HS) : Prop := gReg (S 2) (S 4) (S 18) ∧ S 17 9 = zsum (fun c => if S 18 c = c then 1 else 0) 192
def iTak (S : HS) : Prop := (∃ a : Int → Int, gTak (S 2) (S 4) (S 11) a (S 19)) ∧ (∀ c : Int, 0 ≤ c → c < 192 → (S 2 c = -1 → S 19 c = -1) ∧ (S 2 c ≠ -1 → S 19 c = -2 ∨ ∃ r k : Int, 0 ≤ r ∧ r < S 7 11 ∧ 0 ≤ k ∧ k < S 10 r ∧ S 19 c = 200 * r + k)) ∧ S 17 10 = zsum (fun c => if S 19 c = -2 then 1 else 0) 192 ∧ (∀ r k : Int, 0 ≤ r → r < S 7 11 → 0 ≤ k → k < S 10 r → S 21 (cel S r k) = zsum (fun c => if S 19 c = 200 * r + k then S 2 c else 0) 192)
def iBrd (S : HS) : Prop := ∀ r : Int, 0 ≤ r → r < S 7 11 → (S 29 (cel S r 0) = (S 21 (cel S r 0) + 2) / 3 + S 12 (cel S r 0) ∧ S 30 (cel S r 0) = (S 21 (cel S r 0) + 1) / 3 ∧ S 31 (cel S r 0) = S 21 (cel S r 0) / 3) ∧ ∀ k : Int, 1 ≤ k → k < S 10 r → (k % 2 = 1 → S 29 (cel S r k) = S 30 (cel S r (k - 1)) ∧ S 30 (cel S r k) = S 29 (cel S r (k - 1)) + S 21 (cel S r k) + S 12 (cel S r k) ∧ S 31 (cel S r k) = S 31 (cel S r (k - 1))) ∧ (k % 2 = 0 → S 29 (cel S r k) = S 29 (cel S r (k - 1)) ∧ S 30 (cel S r k) = S 31 (cel S r (k - 1)) + S 21 (cel S r k) + S 12 (cel S r k) ∧ S 31 (cel S r k) = S 30 (cel S r (k - 1)))
def iAll (S : HS) : Prop := iLen S ∧ iTape S ∧ iWords S ∧ iPart S ∧ iRow S ∧ iMark S ∧ iAdd S ∧ iProg S ∧ iCrew S ∧ iReg S ∧ iTak S ∧ iBrd S
def Inv (S : HS) : Prop := WR shF S ∧ iAll S
/-! what it speaks of -/
def cArr : List Nat := [2, 4, 8, 9, 10, 11, 12, 13, 14, 15, 18, 19, 21, 24, 25, 26, 27, 29, 30, 31, 34, 41, 49, 50, 52, 56, 63, 64, 67, 68, 69, 70, 71, 72, 73, 74, 79, 80, 81, 82, 89]
def cFld : List (Nat × Int) := [(1, 1), (1, 2), (3, 3), (7, 11), (7, 12), (17, 9), (17, 10), (23, 4), (40, 1), (45, 6), (51, 2), (51, 22), (51, 27), (51, 34), (51, 37), (51, 38), (51, 43), (51, 54)]
def isCor (k : Nat) (i : Int) : Bool := cArr.contains k || cFld.contains (k, i)
def core (S : HS) : HS := fun k i => if isCor k i then S k i else 0
theorem iLen_c {S : HS} : iLen (core S) = iLen S := rfl
theorem iTape_c {S : HS} : iTape (core S) = iTape S := rfl
theorem iWords_c {S : HS} : iWords (core S) = iWords S := rfl
theorem iPart_c {S : HS} : iPart (core S) = iPart S := rfl
theorem iRow_c {S : HS} : iRow (core S) = iRow S := rfl
theorem iMark_c {S : HS} : iMark (core S) = iMark S := rfl
theorem iAdd_c {S : HS} : iAdd (core S) = iAdd S := rfl
theorem iProg_c {S : HS} : iProg (core S) = iProg S := rfl
theorem iCrew_c {S : HS} : iCrew (core S) = iCrew S := rfl
theorem iReg_c {S : HS} : iReg (core S) = iReg S := rfl
theorem iTak_c {S : HS} : iTak (core S) = iTak S := rfl
theorem iBrd_c {S : HS} : iBrd (core S) = iBrd S := rfl
theorem iAll_c {S : HS} : iAll (core S) = iAll S := rfl
theorem core_fr {A : List Nat} {O : List (Nat × Int)} {S T : HS} (hA : (A.all fun k => !(cArr.contains k) && cFld.all fun q => q.1 != k) = true) (hO : (O.all fun q => !(isCor q.1 q.2)) = true) (h : zFr A O S T) : core T = core S := by
  funext k i
  unfold core
  by_cases c : isCor k i = true
  · rw [if_pos c, if_pos c]
    refine h k i (fun m => ?_) (fun m => ?_)
    · have h1 := List.all_eq_true.mp hA k m
      simp only [Bool.and_eq_true, Bool.not_eq_true', List.all_eq_true] at h1
      unfold isCor at c
      rw [h1.1, Bool.false_or] at c
      have h2 := h1.2 (k, i) (by simpa using c)
      simp at h2
    · have h1 := List.all_eq_true.mp hO (k, i) m
      rw [c] at h1
      cases h1
  · rw [if_neg c, if_neg c]
theorem iAll_fr {A : List Nat} {O : List (Nat × Int)} {S T : HS} (hI : iAll S) (hA : (A.all fun k => !(cArr.contains k) && cFld.all fun q => q.1 != k) = true) (hO : (O.all fun q => !(isCor q.1 q.2)) = true) (h : zFr A O S T) : iAll T := by
  rw [← iAll_c, core_fr hA hO h, iAll_c]
  exact hI
/-- where a call of either leaves all that as it is, and the answers are one -/
theorem zcall {A1 A2 : List Nat} {O1 O2 : List (Nat × Int)} {S : HS} {m1 : zO2} {m2 : HS → zO2} {Q1 : Int → HS → Prop} {B1 B2 : Int → Prop} (hI : Inv S) (w1 : WR shF S → zW A1 O1 B1 S m1) (w2 : ∀ T, WR shF T → zW A2 O2 B2 T (m2 T)) (hA1 : (A1.all fun k => !(cArr.contains k) && cFld.all fun q => q.1 != k) = true) (hO1 : (O1.all fun q => !(isCor q.1 q.2)) = true) (hA2 : (A2.all fun k => !(cArr.contains k) && cFld.all fun q => q.1 != k) = true) (hO2 : (O2.all fun q => !(isCor q.1 q.2)) = true) (h1 : zP m1 Q1) (h2 : ∀ r T, Q1 r T → WR shF T → iAll T → core T = core S → zP (m2 T) (fun r' _ => r' = r)) : ∃ (r : Int) (S1 S2 : HS), m1 = some (r, S1) ∧ WR shF S1 ∧ m2 S1 = some (r, S2) ∧ Inv S2 := by
  obtain ⟨hW, hA⟩ := hI
  obtain ⟨r, S1, e1, q1⟩ := h1
  obtain ⟨-, W1, F1⟩ := w1 hW r S1 e1
  have I1 := iAll_fr hA hA1 hO1 F1
  obtain ⟨r', S2, e2, q2⟩ := h2 r S1 q1 W1 I1 (core_fr hA1 hO1 F1)
  obtain ⟨-, W2, F2⟩ := w2 S1 W1 r' S2 e2
  subst q2
  exact ⟨r', S1, S2, e1, W1, e2, W2, iAll_fr I1 hA2 hO2 F2⟩
