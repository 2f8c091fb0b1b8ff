/-! a line, drawn by both -/
def grw (S0 T0 S T : HS) : Prop := (S0 3 3 ≤ S 3 3 ∧ S0 7 11 ≤ S 7 11) ∧ (∀ s : Int, S 4 s = S0 4 s ∨ (S0 4 s = -1 ∧ S0 3 3 ≤ S 4 s ∧ 0 ≤ s ∧ s < 412)) ∧ (∀ c : Int, S 11 c = S0 11 c ∨ (S0 11 c = -1 ∧ 200 * S0 7 11 ≤ S 11 c ∧ 0 ≤ c ∧ c < 192)) ∧ (∀ r : Int, 0 ≤ r → r < S0 7 11 → S 9 r = S0 9 r ∧ S 10 r = S0 10 r ∧ S 13 r = S0 13 r ∧ S 14 r = S0 14 r ∧ S 15 r = S0 15 r ∧ T 71 r = T0 71 r ∧ T 72 r = T0 72 r ∧ ∀ k : Int, 0 ≤ k → k < S0 10 r → cel S r k = cel S0 r k) ∧ (∀ r : Int, S0 7 11 ≤ r → r < S 7 11 → S 13 r = 0 ∧ S 14 r = -1 ∧ S 15 r = -1 ∧ T 71 r = -1 ∧ T 72 r = -1)
def drw (S0 T0 S T : HS) : Prop := iPart (hyb S T) ∧ iRow (hyb S T) ∧ grw S0 T0 S T ∧ (S 45 7 = T 51 18 ∧ S 45 7 = (S 3 3 - S0 3 3) + (S 7 11 - S0 7 11)) ∧ (S 43 = S0 43 ∧ S 42 3 = S0 42 3) ∧ (T 57 = T0 57 ∧ T 58 = T0 58 ∧ T 59 = T0 59 ∧ T 60 = T0 60)
def zrun (S T : HS) : Prop := S 45 8 = -1 ∧ T 51 17 = 0
def zfai (S T : HS) : Prop := (1 ≤ T 51 17 ∧ T 51 17 ≤ 9) ∧ S 45 8 = T 51 17 + 16 * S 45 7
section RZ
variable {S0 T0 S T A B : HS}
theorem iPart_h : iPart (hyb S T) = (((∀ c : Int, 0 ≤ c → c < 192 → T 67 c = S 2 c ∧ -1 ≤ S 2 c ∧ S 2 c ≤ 99) ∧ (∀ s : Int, 0 ≤ s → s < 208 → T 63 s = S 4 s + 1) ∧ (∀ s : Int, 208 ≤ s → s < 412 → T 64 (s - 208) = S 4 s + 1) ∧ (∀ s : Int, 0 ≤ s → s < 412 → -1 ≤ S 4 s ∧ S 4 s < S 3 3)) ∧ T 51 22 = S 3 3 ∧ 0 ≤ S 3 3 ∧ S 3 3 ≤ 60) := rfl
theorem iPart_same (h : iPart (hyb S T)) (e2 : A 2 = S 2) (e3 : A 3 3 = S 3 3) (e4 : A 4 = S 4) (e63 : B 63 = T 63) (e64 : B 64 = T 64) (e67 : B 67 = T 67) (e22 : B 51 22 = T 51 22) : iPart (hyb A B) := by
  rw [iPart_h] at h ⊢
  rw [e2, e3, e4, e63, e64, e67, e22]
  exact h
theorem iRow_same (h : iRow (hyb S T)) (e2 : A 2 = S 2) (e7 : A 7 = S 7) (e8 : A 8 = S 8) (e9 : A 9 = S 9) (e10 : A 10 = S 10) (e11 : A 11 = S 11) (e27 : B 51 27 = T 51 27) (e68 : B 68 = T 68) (e69 : B 69 = T 69) (e70 : B 70 = T 70) : iRow (hyb A B) := by
  have hm := h.m
  rw [mRow_h] at hm
  refine iRow.mk ?_ ?_
  · rw [cRow_h]
    exact cRow_fr (S := S) h.c e2 e7 e8 e9 e10 e11
  · have ec : cel A = cel S := by
      funext x y
      unfold cel
      rw [e8, e9]
    rw [mRow_h, e7, e10, e11, e27, e68, e69, e70, ec]
    exact hm
theorem grw_same (h : grw S0 T0 S T) (e3 : A 3 3 = S 3 3) (e4 : A 4 = S 4) (e7 : A 7 11 = S 7 11) (e8 : A 8 = S 8) (e9 : A 9 = S 9) (e10 : A 10 = S 10) (e11 : A 11 = S 11) (e13 : A 13 = S 13) (e14 : A 14 = S 14) (e15 : A 15 = S 15) (e71 : B 71 = T 71) (e72 : B 72 = T 72) : grw S0 T0 A B := by
  have ec : cel A = cel S := by
    funext x y
    unfold cel
    rw [e8, e9]
  unfold grw at h ⊢
  rw [e3, e4, e7, e9, e10, e11, e13, e14, e15, e71, e72, ec]
  exact h
/-- what neither notes of a line -/
theorem drw.fr (h : drw S0 T0 S T) (h1 : zFr [5, 6, 16, 47, 48] wkO S A) (h2 : zFr [61, 62, 65, 66] [(51, 19)] T B) : drw S0 T0 A B := by
  obtain ⟨a, b, c, d, e, f⟩ := h
  have c1 := fun (k : Nat) (hA : k ∉ [5, 6, 16, 47, 48]) (hO : (wkO.all fun q => q.1 != k) = true) => h1.cell k hA hO
  have c2 := fun (k : Nat) (hA : k ∉ [61, 62, 65, 66]) (hO : (([(51, 19)] : List (Nat × Int)).all fun q => q.1 != k) = true) => h2.cell k hA hO
  refine ⟨?_, ?_, ?_, ?_, ?_, ?_⟩
  · exact iPart_same a (c1 2 (by decide) (by decide)) (by rw [c1 3 (by decide) (by decide)]) (c1 4 (by decide) (by decide)) (c2 63 (by decide) (by decide)) (c2 64 (by decide) (by decide)) (c2 67 (by decide) (by decide)) (h2 51 22 (by decide) (by decide))
  · exact iRow_same b (c1 2 (by decide) (by decide)) (c1 7 (by decide) (by decide)) (c1 8 (by decide) (by decide)) (c1 9 (by decide) (by decide)) (c1 10 (by decide) (by decide)) (c1 11 (by decide) (by decide)) (h2 51 27 (by decide) (by decide)) (c2 68 (by decide) (by decide)) (c2 69 (by decide) (by decide)) (c2 70 (by decide) (by decide))
  · exact grw_same c (by rw [c1 3 (by decide) (by decide)]) (c1 4 (by decide) (by decide)) (by rw [c1 7 (by decide) (by decide)]) (c1 8 (by decide) (by decide)) (c1 9 (by decide) (by decide)) (c1 10 (by decide) (by decide)) (c1 11 (by decide) (by decide)) (c1 13 (by decide) (by decide)) (c1 14 (by decide) (by decide)) (c1 15 (by decide) (by decide)) (c2 71 (by decide) (by decide)) (c2 72 (by decide) (by decide))
  · rw [c1 45 (by decide) (by decide), c1 3 (by decide) (by decide), c1 7 (by decide) (by decide), h2 51 18 (by decide) (by decide)]
    exact d
  · rw [c1 43 (by decide) (by decide), c1 42 (by decide) (by decide)]
    exact e
  · rw [c2 57 (by decide) (by decide), c2 58 (by decide) (by decide), c2 59 (by decide) (by decide), c2 60 (by decide) (by decide)]
    exact f
theorem drw.b (h : drw S0 T0 S T) (h0 : 0 ≤ S0 3 3 ∧ 0 ≤ S0 7 11) : 0 ≤ S 45 7 ∧ S 45 7 ≤ 84 := by
  obtain ⟨a, b, c, d, -⟩ := h
  rw [iPart_h] at a
  have r : cRow S := b.c
  have := r.1
  have := c.1
  omega
/-- where it can't stand -/
theorem drw_no (h : drw S0 T0 S T) (h0 : 0 ≤ S0 3 3 ∧ 0 ≤ S0 7 11) {rm : Int} (hr : 1 ≤ rm ∧ rm ≤ 9) (h1 : zFr [5, 6, 16, 47, 48] wkO S A) (h2 : zFr [61, 62, 65, 66, 68, 70] [(51, 19)] T B) (hI : iRow (hyb A B)) : drw S0 T0 (up A 45 8 (rm + 16 * A 45 7)) (up (up B 51 17 rm) 51 18 (0 + B 51 18)) ∧ zfai (up A 45 8 (rm + 16 * A 45 7)) (up (up B 51 17 rm) 51 18 (0 + B 51 18)) := by
  obtain ⟨a, b, c, d, e, f⟩ := h
  have c1 := fun (k : Nat) (hA : k ∉ [5, 6, 16, 47, 48]) (hO : (wkO.all fun q => q.1 != k) = true) => h1.cell k hA hO
  have c2 := fun (k : Nat) (hA : k ∉ [61, 62, 65, 66, 68, 70]) (hO : (([(51, 19)] : List (Nat × Int)).all fun q => q.1 != k) = true) => h2.cell k hA hO
  have uA : ∀ k : Nat, k ≠ 45 → up A 45 8 (rm + 16 * A 45 7) k = A k := fun k hk => by
    funext q
    rw [up_cell _ hk]
  have uB : ∀ k : Nat, k ≠ 51 → up (up B 51 17 rm) 51 18 (0 + B 51 18) k = B k := fun k hk => by
    funext q
    rw [up_cell _ hk, up_cell _ hk]
  have a7 : up A 45 8 (rm + 16 * A 45 7) 45 7 = S 45 7 := by rw [up_same, if_neg (by decide), c1 45 (by decide) (by decide)]
  have b18 : up (up B 51 17 rm) 51 18 (0 + B 51 18) 51 18 = T 51 18 := by rw [up_eq, h2 51 18 (by decide) (by decide)]; omega
  have b17 : up (up B 51 17 rm) 51 18 (0 + B 51 18) 51 17 = rm := by rw [up_same, if_neg (by decide), up_eq]
  refine ⟨⟨?_, ?_, ?_, ?_, ?_, ?_⟩, ?_, ?_⟩
  · refine iPart_same a ?_ ?_ ?_ ?_ ?_ ?_ ?_
    · rw [uA 2 (by decide), c1 2 (by decide) (by decide)]
    · rw [uA 3 (by decide), c1 3 (by decide) (by decide)]
    · rw [uA 4 (by decide), c1 4 (by decide) (by decide)]
    · rw [uB 63 (by decide), c2 63 (by decide) (by decide)]
    · rw [uB 64 (by decide), c2 64 (by decide) (by decide)]
    · rw [uB 67 (by decide), c2 67 (by decide) (by decide)]
    · rw [up_same, if_neg (by decide), up_same, if_neg (by decide), h2 51 22 (by decide) (by decide)]
  · refine iRow_same hI (uA 2 (by decide)) (uA 7 (by decide)) (uA 8 (by decide)) (uA 9 (by decide)) (uA 10 (by decide)) (uA 11 (by decide)) ?_ (uB 68 (by decide)) (uB 69 (by decide)) (uB 70 (by decide))
    rw [up_same, if_neg (by decide), up_same, if_neg (by decide)]
  · refine grw_same c ?_ ?_ ?_ ?_ ?_ ?_ ?_ ?_ ?_ ?_ ?_ ?_
    · rw [uA 3 (by decide), c1 3 (by decide) (by decide)]
    · rw [uA 4 (by decide), c1 4 (by decide) (by decide)]
    · rw [uA 7 (by decide), c1 7 (by decide) (by decide)]
    · rw [uA 8 (by decide), c1 8 (by decide) (by decide)]
    · rw [uA 9 (by decide), c1 9 (by decide) (by decide)]
    · rw [uA 10 (by decide), c1 10 (by decide) (by decide)]
    · rw [uA 11 (by decide), c1 11 (by decide) (by decide)]
    · rw [uA 13 (by decide), c1 13 (by decide) (by decide)]
    · rw [uA 14 (by decide), c1 14 (by decide) (by decide)]
    · rw [uA 15 (by decide), c1 15 (by decide) (by decide)]
    · rw [uB 71 (by decide), c2 71 (by decide) (by decide)]
    · rw [uB 72 (by decide), c2 72 (by decide) (by decide)]
  · rw [a7, b18, uA 3 (by decide), uA 7 (by decide), c1 3 (by decide) (by decide), c1 7 (by decide) (by decide)]
    exact d
  · rw [uA 43 (by decide), uA 42 (by decide), c1 43 (by decide) (by decide), c1 42 (by decide) (by decide)]
    exact e
  · rw [uB 57 (by decide), uB 58 (by decide), uB 59 (by decide), uB 60 (by decide), c2 57 (by decide) (by decide), c2 58 (by decide) (by decide), c2 59 (by decide) (by decide), c2 60 (by decide) (by decide)]
    exact f
  · rw [b17]
    exact hr
  · rw [up_eq, b17, a7, c1 45 (by decide) (by decide)]
/-- a parting more -/
theorem drw_part (h : drw S0 T0 S T) (hr : zrun S T) (p3 : S 3 3 < 60) (p1 : A 3 3 = S 3 3 + 1) (p2 : B 51 22 = T 51 22 + 1) (p4 : ∀ s : Int, A 4 s = S 4 s ∨ (S 4 s = -1 ∧ A 4 s = S 3 3 ∧ 0 ≤ s ∧ s < 412)) (p5 : ∀ s : Int, 0 ≤ s → s < 412 → sdM B s = A 4 s + 1) (h1 : zFr [4, 5, 6] [(3, 3)] S A) (h2 : zFr [63, 64, 65, 66] [(51, 22)] T B) : drw S0 T0 (up A 45 7 (A 45 7 + 1)) (up (up B 51 17 0) 51 18 (1 + B 51 18)) ∧ zrun (up A 45 7 (A 45 7 + 1)) (up (up B 51 17 0) 51 18 (1 + B 51 18)) := by
  obtain ⟨a, b, c, d, e, f⟩ := h
  have a' := a
  rw [iPart_h] at a'
  have c1 := fun (k : Nat) (hA : k ∉ [4, 5, 6]) (hO : (([(3, 3)] : List (Nat × Int)).all fun q => q.1 != k) = true) => h1.cell k hA hO
  have c2 := fun (k : Nat) (hA : k ∉ [63, 64, 65, 66]) (hO : (([(51, 22)] : List (Nat × Int)).all fun q => q.1 != k) = true) => h2.cell k hA hO
  have uA : ∀ k : Nat, k ≠ 45 → up A 45 7 (A 45 7 + 1) k = A k := fun k hk => by
    funext q
    rw [up_cell _ hk]
  have uB : ∀ k : Nat, k ≠ 51 → up (up B 51 17 0) 51 18 (1 + B 51 18) k = B k := fun k hk => by
    funext q
    rw [up_cell _ hk, up_cell _ hk]
  have b22 : up (up B 51 17 0) 51 18 (1 + B 51 18) 51 22 = T 51 22 + 1 := by
    rw [up_same, if_neg (by decide), up_same, if_neg (by decide), p2]
  have r4 : ∀ s : Int, 0 ≤ s → s < 412 → -1 ≤ A 4 s ∧ A 4 s < S 3 3 + 1 := by
    intro s s0 s1
    have z := a'.1.2.2.2 s s0 s1
    rcases p4 s with y | y <;> omega
  refine ⟨⟨?_, ?_, ?_, ?_, ?_, ?_⟩, ?_, ?_⟩
  · rw [iPart_h, uA 2 (by decide), uA 3 (by decide), uA 4 (by decide), uB 63 (by decide), uB 64 (by decide), uB 67 (by decide), b22, p1, c1 2 (by decide) (by decide), c2 67 (by decide) (by decide)]
    refine ⟨⟨a'.1.1, fun s s0 s1 => ?_, fun s s0 s1 => ?_, r4⟩, by omega, by omega, by omega⟩
    · have z := p5 s s0 (by omega)
      unfold sdM at z
      rw [if_neg (by omega)] at z
      exact z
    · have z := p5 s (by omega) s1
      unfold sdM at z
      rw [if_pos s0] at z
      exact z
  · refine iRow_same b ?_ ?_ ?_ ?_ ?_ ?_ ?_ ?_ ?_ ?_
    · rw [uA 2 (by decide), c1 2 (by decide) (by decide)]
    · rw [uA 7 (by decide), c1 7 (by decide) (by decide)]
    · rw [uA 8 (by decide), c1 8 (by decide) (by decide)]
    · rw [uA 9 (by decide), c1 9 (by decide) (by decide)]
    · rw [uA 10 (by decide), c1 10 (by decide) (by decide)]
    · rw [uA 11 (by decide), c1 11 (by decide) (by decide)]
    · rw [up_same, if_neg (by decide), up_same, if_neg (by decide), h2 51 27 (by decide) (by decide)]
    · rw [uB 68 (by decide), c2 68 (by decide) (by decide)]
    · rw [uB 69 (by decide), c2 69 (by decide) (by decide)]
    · rw [uB 70 (by decide), c2 70 (by decide) (by decide)]
  · obtain ⟨g1, g2, g3, g4, g5⟩ := c
    have ec : cel (up A 45 7 (A 45 7 + 1)) = cel S := by
      funext x y
      unfold cel
      rw [uA 8 (by decide), uA 9 (by decide), c1 8 (by decide) (by decide), c1 9 (by decide) (by decide)]
    unfold grw
    rw [ec, uA 3 (by decide), uA 4 (by decide), uA 7 (by decide), uA 9 (by decide), uA 10 (by decide), uA 11 (by decide), uA 13 (by decide), uA 14 (by decide), uA 15 (by decide), uB 71 (by decide), uB 72 (by decide), c1 7 (by decide) (by decide), c1 9 (by decide) (by decide), c1 10 (by decide) (by decide), c1 11 (by decide) (by decide), c1 13 (by decide) (by decide), c1 14 (by decide) (by decide), c1 15 (by decide) (by decide), c2 71 (by decide) (by decide), c2 72 (by decide) (by decide), p1]
    refine ⟨⟨by omega, g1.2⟩, fun s => ?_, g3, g4, g5⟩
    rcases p4 s with y | ⟨y1, y2, y3, y4⟩
    · rw [y]
      exact g2 s
    · right
      rcases g2 s with z | z
      · exact ⟨by omega, by omega, y3, y4⟩
      · exact ⟨z.1, by omega, y3, y4⟩
  · rw [up_eq, up_eq, uA 3 (by decide), uA 7 (by decide), p1, c1 45 (by decide) (by decide), c1 7 (by decide) (by decide), h2 51 18 (by decide) (by decide)]
    omega
  · rw [uA 43 (by decide), uA 42 (by decide), c1 43 (by decide) (by decide), c1 42 (by decide) (by decide)]
    exact e
  · rw [uB 57 (by decide), uB 58 (by decide), uB 59 (by decide), uB 60 (by decide), c2 57 (by decide) (by decide), c2 58 (by decide) (by decide), c2 59 (by decide) (by decide), c2 60 (by decide) (by decide)]
    exact f
  · rw [up_same, if_neg (by decide), c1 45 (by decide) (by decide)]
    exact hr.1
  · rw [up_same, if_neg (by decide), up_eq]
/-- a row more -/
theorem drw_row {n : Int} (h : drw S0 T0 S T) (hr : zrun S T) (h24 : S 7 11 < 24) (hN : rwN S T A n) (hk : ∀ k : Int, 0 ≤ k → k < n → (0 ≤ rwC T k ∧ rwC T k < 192) ∧ S 11 (rwC T k) = -1) (hI : iRow (hyb A B)) (p71 : ∀ r : Int, B 71 r = if r = S 7 11 then -1 else T 71 r) (p72 : ∀ r : Int, B 72 r = if r = S 7 11 then -1 else T 72 r) (h2 : zFr [68, 69, 70, 71, 72] [(51, 27)] T B) : drw S0 T0 (up A 45 7 (A 45 7 + 1)) (up (up B 51 17 0) 51 18 (1 + B 51 18)) ∧ zrun (up A 45 7 (A 45 7 + 1)) (up (up B 51 17 0) 51 18 (1 + B 51 18)) := by
  obtain ⟨a, b, c, d, e, f⟩ := h
  have hR : cRow S := b.c
  have e0 := rwE_r hR
  obtain ⟨n7, n9, n10, n13, n14, n15, n8, n8', n11, n11', h1⟩ := hN
  have c1 := fun (k : Nat) (hA : k ∉ [8, 9, 10, 11, 13, 14, 15, 16]) (hO : (([(7, 11)] : List (Nat × Int)).all fun q => q.1 != k) = true) => h1.cell k hA hO
  have c2 := fun (k : Nat) (hA : k ∉ [68, 69, 70, 71, 72]) (hO : (([(51, 27)] : List (Nat × Int)).all fun q => q.1 != k) = true) => h2.cell k hA hO
  have uA : ∀ k : Nat, k ≠ 45 → up A 45 7 (A 45 7 + 1) k = A k := fun k hk => by
    funext q
    rw [up_cell _ hk]
  have uB : ∀ k : Nat, k ≠ 51 → up (up B 51 17 0) 51 18 (1 + B 51 18) k = B k := fun k hk => by
    funext q
    rw [up_cell _ hk, up_cell _ hk]
  refine ⟨⟨?_, ?_, ?_, ?_, ?_, ?_⟩, ?_, ?_⟩
  · refine iPart_same a ?_ ?_ ?_ ?_ ?_ ?_ ?_
    · rw [uA 2 (by decide), c1 2 (by decide) (by decide)]
    · rw [uA 3 (by decide), c1 3 (by decide) (by decide)]
    · rw [uA 4 (by decide), c1 4 (by decide) (by decide)]
    · rw [uB 63 (by decide), c2 63 (by decide) (by decide)]
    · rw [uB 64 (by decide), c2 64 (by decide) (by decide)]
    · rw [uB 67 (by decide), c2 67 (by decide) (by decide)]
    · rw [up_same, if_neg (by decide), up_same, if_neg (by decide), h2 51 22 (by decide) (by decide)]
  · refine iRow_same hI (uA 2 (by decide)) (uA 7 (by decide)) (uA 8 (by decide)) (uA 9 (by decide)) (uA 10 (by decide)) (uA 11 (by decide)) ?_ (uB 68 (by decide)) (uB 69 (by decide)) (uB 70 (by decide))
    rw [up_same, if_neg (by decide), up_same, if_neg (by decide)]
  · obtain ⟨g1, g2, g3, g4, g5⟩ := c
    have ec : cel (up A 45 7 (A 45 7 + 1)) = cel A := by
      funext x y
      unfold cel
      rw [uA 8 (by decide), uA 9 (by decide)]
    unfold grw
    rw [ec, uA 3 (by decide), uA 4 (by decide), uA 7 (by decide), uA 9 (by decide), uA 10 (by decide), uA 11 (by decide), uA 13 (by decide), uA 14 (by decide), uA 15 (by decide), uB 71 (by decide), uB 72 (by decide), c1 3 (by decide) (by decide), c1 4 (by decide) (by decide), n7]
    refine ⟨⟨g1.1, by omega⟩, g2, fun c => ?_, fun r r0 r1 => ?_, fun r r0 r1 => ?_⟩
    · by_cases q : ∃ k : Int, 0 ≤ k ∧ k < n ∧ rwC T k = c
      · obtain ⟨k, k0, k1, rfl⟩ := q
        right
        have y := hk k k0 k1
        rw [n11 k k0 k1]
        rcases g3 (rwC T k) with z | z
        · exact ⟨by omega, by omega, y.1.1, y.1.2⟩
        · exact ⟨z.1, by omega, y.1.1, y.1.2⟩
      · rw [n11' c q]
        exact g3 c
    · obtain ⟨x1, x2, x3, x4, x5, x6, x7, x8⟩ := g4 r r0 r1
      have ne : r ≠ S 7 11 := by omega
      rw [n9, n10, n13, n14, n15, p71, p72, if_neg ne, if_neg ne, if_neg ne, if_neg ne, if_neg ne, if_neg ne, if_neg ne]
      refine ⟨x1, x2, x3, x4, x5, x6, x7, fun k k0 k1 => ?_⟩
      rw [← x8 k k0 k1]
      have y := e0.2.2 r r0 (by omega)
      unfold cel
      rw [n9, if_neg ne, n8' _ (by omega)]
    · rw [n13, n14, n15, p71, p72]
      by_cases z : r = S 7 11
      · rw [if_pos z, if_pos z, if_pos z, if_pos z, if_pos z]
        exact ⟨rfl, rfl, rfl, rfl, rfl⟩
      · rw [if_neg z, if_neg z, if_neg z, if_neg z, if_neg z]
        exact g5 r r0 (by omega)
  · rw [up_eq, up_eq, uA 3 (by decide), uA 7 (by decide), n7, c1 45 (by decide) (by decide), c1 3 (by decide) (by decide), h2 51 18 (by decide) (by decide)]
    omega
  · rw [uA 43 (by decide), uA 42 (by decide), c1 43 (by decide) (by decide), c1 42 (by decide) (by decide)]
    exact e
  · rw [uB 57 (by decide), uB 58 (by decide), uB 59 (by decide), uB 60 (by decide), c2 57 (by decide) (by decide), c2 58 (by decide) (by decide), c2 59 (by decide) (by decide), c2 60 (by decide) (by decide)]
    exact f
  · rw [up_same, if_neg (by decide), c1 45 (by decide) (by decide)]
    exact hr.1
  · rw [up_same, if_neg (by decide), up_eq]
def mLn (rec : Int → Int → Int → Int → Int → HS → zO2) (k3 : Int → HS → zO2) (v2 v3 v4 v5 v6 : Int) (T : HS) : zO2 := zb (M_X12_goes v6 v3 v4 v5 T) fun _ S8 => zg ((0 : Int) ≤ v6 ∧ v6 < 1100) <| if S8 57 v6 = 0 then zb (M_X12_parting S8) fun r18 S19 => J_X12_draws_220 rec k3 v2 v3 v4 v5 v6 r18 S19 else zb (M_X12_rowing S8) fun r11 S12 => J_X12_draws_220 rec k3 v2 v3 v4 v5 v6 r11 S12
theorem m_220 {rec : Int → Int → Int → Int → Int → HS → zO2} {k3 : Int → HS → zO2} {v2 v3 v4 v5 x r : Int} (hx : 0 ≤ x ∧ x < 1100) (h18 : 0 ≤ B 51 18 ∧ B 51 18 ≤ 84) : J_X12_draws_220 rec k3 v2 v3 v4 v5 x r B = k3 (B 60 x) (up (up B 51 17 r) 51 18 ((if r = 0 then 1 else 0) + B 51 18)) := by
  have e17 : up B 51 17 r 51 17 = r := up_eq ..
  have e18 : up B 51 17 r 51 18 = B 51 18 := by rw [up_same, if_neg (by decide)]
  unfold J_X12_draws_220 J_X12_draws_240 J_X12_draws_244
  rw [zs_in, e17, e18]
  by_cases g : r = 0
  · rw [if_pos g, if_pos g, zl_in (by omega), zs_in, zg_in hx, up_cell _ (by decide), up_cell _ (by decide), Int.add_comm]
  · rw [if_neg g, if_neg g, zl_in (by omega), zs_in, zg_in hx, up_cell _ (by decide), up_cell _ (by decide), Int.add_comm]
theorem line_on {a x flip mir across dx dy : Int} {k : Nat} (h : drw S0 T0 S T) (h0 : 0 ≤ S0 3 3 ∧ 0 ≤ S0 7 11) (hr : zrun S T) (hl : rLine (S0 43) T0 a x k) (ha : 0 ≤ a) (hs : a + 4 + 2 * k ≤ S0 42 3 ∧ S0 42 3 ≤ 1000) (hx : 0 ≤ x ∧ x + 1 + k ≤ 1100) (hf : mir = 0 ∧ flip = 1 ∧ across = dx ∨ mir = 1 ∧ flip = -1 ∧ across = dx + 16) (hdx : -900 ≤ dx ∧ dx ≤ 900) (hdy : -900 ≤ dy ∧ dy ≤ 900) : ∃ S' T' : HS, M_X4_drawLine a flip across dy S = some (0, S') ∧ (∀ (rec : Int → Int → Int → Int → Int → HS → zO2) (k3 : Int → HS → zO2) (v2 : Int), mLn rec k3 v2 mir dx dy x T = k3 (T0 60 x) T') ∧ drw S0 T0 S' T' ∧ (zrun S' T' ∨ zfai S' T') := by
  have hb := h.b h0
  have h' := h
  obtain ⟨dP, dI, dG, dC, ⟨e43, e42⟩, ⟨e57, e58, e59, e60⟩⟩ := h'
  have hl' : rLine (S 43) T a x k := rLine_eq hl e43 e57 e58 e59 e60
  have fin : ∀ W H K : Int, (K = 4 ∧ W = 17 ∧ H = 13 ∨ K = 5 ∧ W = 16 ∧ H = 12) → S 43 a = K → ∃ (S1 T1 : HS) (vx vy : Int), M_X4_walk a flip across dy S = some (0, S1) ∧ M_X12_goes x mir dx dy T = some (0, T1) ∧ wkR W H S1 T1 vx vy ∧ T1 51 19 ≤ 4001 ∧ zFr [47, 48] wkO S S1 ∧ zFr [61, 62] [(51, 19)] T T1 := fun W H K hW hK => walk_on hW hK hf hl' ha (by rw [e42]; exact hs) hx hdx hdy
  have code : M_X7_codeAt a S = some (S 43 a, S) := e_code (by rw [e42]; omega)
  rcases hl.1 with ⟨q1, q2, -, -⟩ | ⟨q1, q2, -, -⟩
  · obtain ⟨S1, T1, vx, vy, c1, m1, hR, hN, f1, g1⟩ := fin 17 13 4 (Or.inl ⟨rfl, rfl, rfl⟩) (by rw [e43, q1])
    have D1 : drw S0 T0 S1 T1 := h.fr (zFr.mono (by decide) (by decide) f1) (zFr.mono (by decide) (by decide) g1)
    have R1 : zrun S1 T1 := ⟨by rw [f1.cell 45 (by decide) (by decide)]; exact hr.1, by rw [g1 51 17 (by decide) (by decide)]; exact hr.2⟩
    have hb1 := D1.b h0
    obtain ⟨rc, A, rm, B, eA, eB, hO⟩ := part_on D1.1 hR hN
    have t57 : T1 57 x = 0 := by rw [D1.2.2.2.2.2.1, q2]
    have em : ∀ (rec : Int → Int → Int → Int → Int → HS → zO2) (k3 : Int → HS → zO2) (v2 : Int), mLn rec k3 v2 mir dx dy x T = J_X12_draws_220 rec k3 v2 mir dx dy x rm B := by
      intro rec k3 v2
      unfold mLn
      rw [m1, zb_some, zg_in (by omega), if_pos t57, eB, zb_some]
    have b18 : ∀ B' : HS, zFr [63, 64, 65, 66] [(51, 22)] T1 B' → (0 ≤ B' 51 18 ∧ B' 51 18 ≤ 84) ∧ B' 60 x = T0 60 x := by
      intro B' fB
      rw [fB 51 18 (by decide) (by decide), fB.cell 60 (by decide) (by decide), ← D1.2.2.2.1.1, D1.2.2.2.2.2.2.2.2]
      exact ⟨hb1, rfl⟩
    have ec : M_X4_drawLine a flip across dy S = J_X4_drawLine_58 0 rc A := by
      unfold M_X4_drawLine J_X4_drawLine_17
      rw [code, zb_some, e43, q1, if_neg (by decide), c1, zb_some, if_pos rfl, eA, zb_some]
    rcases hO with ⟨rfl, rfl, A', eA', p1, p2, p3, p4, p5, fA, fB⟩ | ⟨p1, rfl, sA, sB⟩
    · obtain ⟨x1, x2⟩ := b18 B fB
      have z := drw_part D1 R1 p1 p2 p3 p4 p5 fA fB
      have a45 : A' 45 7 = S1 45 7 := by rw [fA.cell 45 (by decide) (by decide)]
      refine ⟨up A' 45 7 (A' 45 7 + 1), up (up B 51 17 0) 51 18 (1 + B 51 18), ?_, fun rec k3 v2 => ?_, z.1, Or.inl z.2⟩
      · rw [ec]
        unfold J_X4_drawLine_58 J_X4_drawLine_111
        rw [if_pos rfl, if_pos rfl, eA', zb_some, zl_in (by omega), zs_in]
      · rw [em, m_220 (by omega) x1, x2, if_pos rfl]
    · have fB : zFr [63, 64, 65, 66] [(51, 22)] T1 B := zFr.mono (by decide) (by decide) sB.fr
      obtain ⟨x1, x2⟩ := b18 B fB
      have hI : iRow (hyb A B) := iRow_same D1.2.1 (sA 2 (by decide)) (sA 7 (by decide)) (sA 8 (by decide)) (sA 9 (by decide)) (sA 10 (by decide)) (sA 11 (by decide)) (by rw [sB 51 (by decide)]) (sB 68 (by decide)) (sB 69 (by decide)) (sB 70 (by decide))
      have z := drw_no D1 h0 p1 (zFr.mono (by decide) (by decide) sA.fr) (zFr.mono (by decide) (by decide) sB.fr) hI
      have a45 : A 45 7 = S1 45 7 := by rw [sA 45 (by decide)]
      refine ⟨up A 45 8 (rc + 16 * A 45 7), up (up B 51 17 rc) 51 18 (0 + B 51 18), ?_, fun rec k3 v2 => ?_, z.1, Or.inr z.2⟩
      · rw [ec]
        unfold J_X4_drawLine_58
        rw [if_neg (by omega), zl_in (by omega), zs_in]
      · rw [em, m_220 (by omega) x1, x2, if_neg (show ¬ rc = 0 by omega)]
  · obtain ⟨S1, T1, vx, vy, c1, m1, hR, hN, f1, g1⟩ := fin 16 12 5 (Or.inr ⟨rfl, rfl, rfl⟩) (by rw [e43, q1])
    have D1 : drw S0 T0 S1 T1 := h.fr (zFr.mono (by decide) (by decide) f1) (zFr.mono (by decide) (by decide) g1)
    have R1 : zrun S1 T1 := ⟨by rw [f1.cell 45 (by decide) (by decide)]; exact hr.1, by rw [g1 51 17 (by decide) (by decide)]; exact hr.2⟩
    have hb1 := D1.b h0
    obtain ⟨rc, A, rm, B, eA, eB, hO⟩ := row_on D1.1 D1.2.1 hR hN
    have t57 : T1 57 x = 1 := by rw [D1.2.2.2.2.2.1, q2]
    have em : ∀ (rec : Int → Int → Int → Int → Int → HS → zO2) (k3 : Int → HS → zO2) (v2 : Int), mLn rec k3 v2 mir dx dy x T = J_X12_draws_220 rec k3 v2 mir dx dy x rm B := by
      intro rec k3 v2
      unfold mLn
      rw [m1, zb_some, zg_in (by omega), if_neg (by omega), eB, zb_some]
    have b18 : ∀ B' : HS, zFr [68, 69, 70, 71, 72] [(51, 27)] T1 B' → (0 ≤ B' 51 18 ∧ B' 51 18 ≤ 84) ∧ B' 60 x = T0 60 x := by
      intro B' fB
      rw [fB 51 18 (by decide) (by decide), fB.cell 60 (by decide) (by decide), ← D1.2.2.2.1.1, D1.2.2.2.2.2.2.2.2]
      exact ⟨hb1, rfl⟩
    have ec : M_X4_drawLine a flip across dy S = J_X4_drawLine_58 1 rc A := by
      unfold M_X4_drawLine J_X4_drawLine_17
      rw [code, zb_some, e43, q1, if_pos rfl, c1, zb_some, if_neg (by decide), eA, zb_some]
    rcases hO with ⟨rfl, rfl, A', n, eA', p1, p2, p3, hN', p4, hI, p5, p6, fB⟩ | ⟨p1, rfl, sA, sB, hI⟩
    · obtain ⟨x1, x2⟩ := b18 B fB
      have z := drw_row D1 R1 p1 hN' p4 hI p5 p6 fB
      have a45 : A' 45 7 = S1 45 7 := by rw [hN'.2.2.2.2.2.2.2.2.2.2.cell 45 (by decide) (by decide)]
      refine ⟨up A' 45 7 (A' 45 7 + 1), up (up B 51 17 0) 51 18 (1 + B 51 18), ?_, fun rec k3 v2 => ?_, z.1, Or.inl z.2⟩
      · rw [ec]
        unfold J_X4_drawLine_58 J_X4_drawLine_111
        rw [if_pos rfl, if_neg (by decide), eA', zb_some, zl_in (by omega), zs_in]
      · rw [em, m_220 (by omega) x1, x2, if_pos rfl]
    · have fB : zFr [68, 69, 70, 71, 72] [(51, 27)] T1 B := zFr.mono (by decide) (by decide) sB.fr
      obtain ⟨x1, x2⟩ := b18 B fB
      have z := drw_no D1 h0 p1 (zFr.mono (by decide) (by decide) sA.fr) (zFr.mono (by decide) (by decide) sB.fr) hI
      have a45 : A 45 7 = S1 45 7 := by rw [sA 45 (by decide)]
      refine ⟨up A 45 8 (rc + 16 * A 45 7), up (up B 51 17 rc) 51 18 (0 + B 51 18), ?_, fun rec k3 v2 => ?_, z.1, Or.inr z.2⟩
      · rw [ec]
        unfold J_X4_drawLine_58
        rw [if_neg (by omega), zl_in (by omega), zs_in]
      · rw [em, m_220 (by omega) x1, x2, if_neg (show ¬ rc = 0 by omega)]
end RZ
