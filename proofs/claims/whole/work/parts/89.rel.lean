/-! what either has read -/
def rLine (c : Int → Int) (o : HS) (a x : Int) (k : Nat) : Prop := ((c a = 4 ∧ o 57 x = 0 ∧ c (a + 1) ≤ 16 ∧ c (a + 2) ≤ 12) ∨ (c a = 5 ∧ o 57 x = 1 ∧ c (a + 1) ≤ 15 ∧ c (a + 2) ≤ 11)) ∧ (0 ≤ c (a + 1) ∧ o 58 x = c (a + 1)) ∧ (0 ≤ c (a + 2) ∧ o 59 x = c (a + 2)) ∧ c (a + 3) = k ∧ o 60 x = x + 1 + k ∧ (∀ j : Nat, j < k → (0 ≤ c (a + 4 + 2 * j) ∧ c (a + 4 + 2 * j) ≤ 3) ∧ (0 ≤ c (a + 5 + 2 * j) ∧ c (a + 5 + 2 * j) ≤ 16) ∧ o 58 (x + 1 + j) = gAcr (c (a + 4 + 2 * j)) * c (a + 5 + 2 * j) ∧ o 59 (x + 1 + j) = gDwn (c (a + 4 + 2 * j)) * c (a + 5 + 2 * j)) ∧ zsum (fun j => c (a + 5 + 2 * j)) k ≤ 4000
def rHead (c : Int → Int) (o : HS) (a x : Int) : Prop := c a = 6 ∧ o 57 x = 2 ∧ (1 ≤ c (a + 1) ∧ c (a + 1) ≤ 9 ∧ o 58 x = c (a + 1)) ∧ (0 ≤ c (a + 2) ∧ c (a + 2) ≤ 3) ∧ (0 ≤ c (a + 3) ∧ c (a + 3) ≤ 16) ∧ o 58 (x + 1) = gAcr (c (a + 2)) * c (a + 3) ∧ o 59 (x + 1) = gDwn (c (a + 2)) * c (a + 3)
def rEmp (o : HS) (x h : Int) : Prop := (h = 2 ∧ o 57 x = 2 ∧ (1 ≤ o 58 x ∧ o 58 x ≤ 9) ∧ (-16 ≤ o 58 (x + 1) ∧ o 58 (x + 1) ≤ 16) ∧ (-16 ≤ o 59 (x + 1) ∧ o 59 (x + 1) ≤ 16)) ∨ (h = 1 ∧ o 57 x = 3)
def Rel : Nat → Nat → (Int → Int) → HS → Int → Int → Int → Int → Prop
  | 0, _, _, _, _, _, _, _ => False
  | f + 1, d, c, o, a, b, x, y => (a = b ∧ x = y) ∨ (∃ k : Nat, rLine c o a x k ∧ a + 4 + 2 * k ≤ b ∧ x + 1 + k ≤ y ∧ Rel f d c o (a + 4 + 2 * k) b (x + 1 + k) y) ∨ (∃ a' x' : Int, d < 4 ∧ rHead c o a x ∧ c (a + 4) = a' ∧ o 60 x = x' ∧ (a + 5 < a' ∧ a' ≤ b) ∧ (x + 2 ≤ x' ∧ x' ≤ y) ∧ Rel f (d + 1) c o (a + 5) a' (x + 2) x' ∧ Rel f d c o a' b x' y) ∨ (∃ a' x' : Int, d < 4 ∧ c a = 7 ∧ o 57 x = 3 ∧ c (a + 1) = a' ∧ o 60 x = x' ∧ (a + 2 < a' ∧ a' ≤ b) ∧ (x + 1 ≤ x' ∧ x' ≤ y) ∧ Rel f (d + 1) c o (a + 2) a' (x + 1) x' ∧ Rel f d c o a' b x' y) ∨ (∃ x' h : Int, d < 4 ∧ rEmp o x h ∧ o 60 x = x' ∧ (x + h ≤ x' ∧ x' ≤ y) ∧ a ≤ b ∧ Rel f (d + 1) c o a a (x + h) x' ∧ Rel f d c o a b x' y)
def agr (o o' : HS) (q : Int) : Prop := o' 57 q = o 57 q ∧ o' 58 q = o 58 q ∧ o' 59 q = o 59 q ∧ o' 60 q = o 60 q
theorem Rel.cg {c c' : Int → Int} {o o' : HS} : ∀ (f d : Nat) (a b x y : Int), Rel f d c o a b x y → (∀ q : Int, a ≤ q → q < b → c' q = c q) → (∀ q : Int, x ≤ q → q < y → agr o o' q) → Rel f d c' o' a b x y := by
  intro f
  induction f with
  | zero =>
    intro d a b x y h _ _
    exact h
  | succ f ih =>
    intro d a b x y h hc ho
    rcases h with h | ⟨k, h1, h2, h3, h4⟩ | ⟨a', x', h1, h2, h3, h4, h5, h6, h7, h8⟩ | ⟨a', x', h1, h2, h3, h4, h5, h6, h7, h8, h9⟩ | ⟨x', h, h1, h2, h3, h4, h5, h6, h7⟩
    · exact Or.inl h
    · refine Or.inr (Or.inl ⟨k, ?_, h2, h3, ih _ _ _ _ _ h4 (fun q q0 q1 => hc q (by omega) q1) (fun q q0 q1 => ho q (by omega) q1)⟩)
      obtain ⟨l1, l2, l3, l4, l5, l6, l7⟩ := h1
      obtain ⟨o1, o2, o3, o4⟩ := ho x (by omega) (by omega)
      refine ⟨?_, ?_, ?_, ?_, ?_, fun j hj => ?_, ?_⟩
      · rw [hc a (by omega) (by omega), hc (a + 1) (by omega) (by omega), hc (a + 2) (by omega) (by omega), o1]
        exact l1
      · rw [hc (a + 1) (by omega) (by omega), o2]
        exact l2
      · rw [hc (a + 2) (by omega) (by omega), o3]
        exact l3
      · rw [hc (a + 3) (by omega) (by omega)]
        exact l4
      · rw [o4]
        exact l5
      · obtain ⟨-, p2, p3, -⟩ := ho (x + 1 + j) (by omega) (by omega)
        rw [hc (a + 4 + 2 * j) (by omega) (by omega), hc (a + 5 + 2 * j) (by omega) (by omega), p2, p3]
        exact l6 j hj
      · rw [zsum_congr (g := fun j => c (a + 5 + 2 * j)) (fun i i0 i1 => hc _ (by omega) (by omega))]
        exact l7
    · obtain ⟨e1, e2, e3, e4, e5, e6, e7⟩ := h2
      obtain ⟨o1, o2, o3, o4⟩ := ho x (by omega) (by omega)
      obtain ⟨-, p2, p3, -⟩ := ho (x + 1) (by omega) (by omega)
      refine Or.inr (Or.inr (Or.inl ⟨a', x', h1, ?_, by rw [hc (a + 4) (by omega) (by omega)]; exact h3, by rw [o4]; exact h4, h5, h6, ih _ _ _ _ _ h7 (fun q q0 q1 => hc q (by omega) (by omega)) (fun q q0 q1 => ho q (by omega) (by omega)), ih _ _ _ _ _ h8 (fun q q0 q1 => hc q (by omega) (by omega)) (fun q q0 q1 => ho q (by omega) (by omega))⟩))
      unfold rHead
      rw [hc a (by omega) (by omega), hc (a + 1) (by omega) (by omega), hc (a + 2) (by omega) (by omega), hc (a + 3) (by omega) (by omega), o1, o2, p2, p3]
      exact ⟨e1, e2, e3, e4, e5, e6, e7⟩
    · obtain ⟨o1, o2, o3, o4⟩ := ho x (by omega) (by omega)
      refine Or.inr (Or.inr (Or.inr (Or.inl ⟨a', x', h1, by rw [hc a (by omega) (by omega)]; exact h2, by rw [o1]; exact h3, by rw [hc (a + 1) (by omega) (by omega)]; exact h4, by rw [o4]; exact h5, h6, h7, ih _ _ _ _ _ h8 (fun q q0 q1 => hc q (by omega) (by omega)) (fun q q0 q1 => ho q (by omega) (by omega)), ih _ _ _ _ _ h9 (fun q q0 q1 => hc q (by omega) (by omega)) (fun q q0 q1 => ho q (by omega) (by omega))⟩)))
    · have hh : 1 ≤ h := by
        rcases h2 with z | z <;> omega
      obtain ⟨o1, o2, o3, o4⟩ := ho x (by omega) (by omega)
      refine Or.inr (Or.inr (Or.inr (Or.inr ⟨x', h, h1, ?_, by rw [o4]; exact h3, h4, h5, ih _ _ _ _ _ h6 (fun q q0 q1 => by omega) (fun q q0 q1 => ho q (by omega) (by omega)), ih _ _ _ _ _ h7 (fun q q0 q1 => hc q (by omega) (by omega)) (fun q q0 q1 => ho q (by omega) (by omega))⟩)))
      rcases h2 with ⟨z0, z1⟩ | z
      · obtain ⟨-, p2, p3, -⟩ := ho (x + 1) (by omega) (by omega)
        left
        rw [o1, o2, p2, p3]
        exact ⟨z0, z1⟩
      · right
        rw [o1]
        exact z
/-- where nothing is written down, it may stand anywhere -/
theorem Rel.mv {c : Int → Int} {o : HS} {e : Int} : ∀ (f d : Nat) (a x y : Int), Rel f d c o a a x y → Rel f d c o e e x y := by
  intro f
  induction f with
  | zero =>
    intro d a x y h
    exact h
  | succ f ih =>
    intro d a x y h
    rcases h with h | ⟨k, h1, h2, h3, h4⟩ | ⟨a', x', h1, h2, h3, h4, h5, h6, h7, h8⟩ | ⟨a', x', h1, h2, h3, h4, h5, h6, h7, h8, h9⟩ | ⟨x', h, h1, h2, h3, h4, h5, h6, h7⟩
    · exact Or.inl ⟨rfl, h.2⟩
    · omega
    · omega
    · omega
    · exact Or.inr (Or.inr (Or.inr (Or.inr ⟨x', h, h1, h2, h3, h4, Int.le_refl _, ih _ _ _ _ h6, ih _ _ _ _ h7⟩)))
section RL
variable {t : Int → Int} {n : Int} {m : Nat}
/-- the head of a block -/
def oE (t : Int → Int) (n : Int) (i : Nat) : Nat := if tK t n i = 6 then i + 5 else i + 2
def oH (t : Int → Int) (n : Int) (i : Nat) : Int := if tK t n i = 6 then 4 else 1
def oG (t : Int → Int) (n : Int) (j : Nat) : Int := if tK t n j = 9 then 0 else 1 + 16 * tP t n j
def oF (t : Int → Int) (n : Int) (i : Nat) : Int := if tK t n i = 6 then (if fN t n 1 9 (i + 1) ≠ 0 then fN t n 1 9 (i + 1) else if fW t n (i + 2) ≠ 0 then fW t n (i + 2) else oG t n (i + 4)) else oG t n (i + 1)
theorem oG_r {j : Nat} (hn : 0 ≤ n ∧ n ≤ 1000) : 0 ≤ oG t n j ∧ (oG t n j = 0 → tK t n j = 9) := by
  have pb := tP_b (t := t) (i := j) hn
  unfold oG
  split
  · exact ⟨by omega, fun _ => by assumption⟩
  · exact ⟨by omega, fun z => by omega⟩
theorem e_exp9 {S : HS} {j : Nat} (h : cSt t n S j) (h0 : S 42 5 = 0) : zP (M_X7_expect 9 S) (fun _ A => (oG t n j ≠ 0 → A 42 5 = oG t n j) ∧ (oG t n j = 0 → cSt t n A (j + 1) ∧ zFr [] [(40, 2), (40, 3), (40, 4), (40, 5)] S A)) := by
  have hn := h.k.2.2.2
  have pb := tP_b (t := t) (i := j) hn
  by_cases g : tK t n j = 9
  · have e : oG t n j = 0 := if_pos g
    refine zP_mono (e_exp0 h h0 g) (fun _ A hA => ?_)
    exact ⟨fun z => absurd e z, fun _ => hA⟩
  · have e : oG t n j = 1 + 16 * tP t n j := if_neg g
    rw [e_exp1 h h0 g, zP_ret, up_eq, e]
    exact ⟨fun _ => rfl, fun z => by omega⟩
theorem e_open88 {S : HS} {j : Nat} {s : Int} (h : cSt t n S j) (h0 : S 42 5 = 0) (hs : S 42 3 = s) (hs0 : 0 ≤ s ∧ s < 1000) : zP (J_X7_readOpening_88 S) (fun _ A => (oG t n j ≠ 0 → A 42 5 = oG t n j) ∧ (oG t n j = 0 → cSt t n A (j + 1) ∧ A 42 5 = 0 ∧ A 42 3 = s + 1 ∧ A 42 4 = S 42 4 ∧ A 44 = S 44 ∧ ∀ q : Int, q ≠ s → A 43 q = S 43 q)) := by
  unfold J_X7_readOpening_88
  rw [e_put7 (by omega), zb_some, zP_zb, hs]
  have fU : zFr [43, 44] [(42, 3), (42, 4), (42, 5)] S (up (up S 43 s 0) 42 3 (s + 1)) := zfr_upO (zfr_up zFr.rf (by decide)) (by decide)
  have u5 : up (up S 43 s 0) 42 3 (s + 1) 42 5 = 0 := by rw [up_same, if_neg (by decide), up_cell _ (by decide), h0]
  refine zP_mono (e_exp9 (h.fr fU) u5) (fun _ A hA => ?_)
  rw [zP_ret]
  refine ⟨hA.1, fun z => ?_⟩
  obtain ⟨c, f⟩ := hA.2 z
  refine ⟨c, (f 42 5 (by decide) (by decide)).trans u5, ?_, ?_, ?_, fun q hq => ?_⟩
  · rw [f 42 3 (by decide) (by decide), up_eq]
  · rw [f 42 4 (by decide) (by decide), up_same, if_neg (by decide), up_cell _ (by decide)]
  · rw [f.cell 44 (by decide) (by decide)]
    funext q
    rw [up_cell _ (by decide), up_cell _ (by decide)]
  · rw [f.cell 43 (by decide) (by decide), up_cell _ (by decide), up_same, if_neg hq]
theorem e_openF {S : HS} {f : Int} (hf : f ≠ 0) (h0 : S 42 5 = f) (hs : 0 ≤ S 42 3) : zP (J_X7_readOpening_88 S) (fun _ A => A 42 5 = f) := by
  unfold J_X7_readOpening_88
  rw [zP_zb]
  refine zP_mono (e_putAny hs) (fun _ A hA => ?_)
  have tf : A 42 5 ≠ 0 := by rw [hA.1, h0]; exact hf
  rw [e_expF tf, zb_some, zP_ret, hA.1, h0]
theorem e_opn {S : HS} {i d : Nat} {s : Int} (hn : 0 ≤ n ∧ n ≤ 1000) (h : cSt t n S i) (h0 : S 42 5 = 0) (hk : tK t n i = 6 ∨ tK t n i = 7) (hd : S 42 4 = d) (hd4 : d < 4) (hs : S 42 3 = s) (hs0 : 0 ≤ s ∧ s ≤ tP t n i) : zP (M_X7_readOpening S) (fun _ A => (oF t n i ≠ 0 → A 42 5 = oF t n i) ∧ (oF t n i = 0 → cSt t n A (oE t n i) ∧ A 42 5 = 0 ∧ A 42 3 = s + oH t n i + 1 ∧ A 42 3 ≤ tP t n (oE t n i) ∧ A 42 4 = d + 1 ∧ A 44 d = s ∧ (∀ q : Int, q < d → A 44 q = S 44 q) ∧ A 43 s = tK t n i ∧ (∀ q : Int, q < s → A 43 q = S 43 q) ∧ (tK t n i = 6 → A 43 (s + 1) = tV t n (i + 1) ∧ A 43 (s + 2) = tK t n (i + 2) ∧ A 43 (s + 3) = tV t n (i + 3)))) := by
  obtain ⟨k1, k2, k3, -⟩ := h.k
  have p1 := (tP_next (t := t) (i := i) hn).2.1 (by omega) (by omega)
  have b1 := tP_b (t := t) (i := i + 1) hn
  have p1' := (tP_next (t := t) (i := i) hn).2.2.1 (by omega)
  unfold M_X7_readOpening
  rw [if_pos (by omega), hd, hs, zg_in (by omega), zs_in]
  have a4 : up S 44 d s 42 4 = d := by rw [up_cell _ (by decide), hd]
  rw [a4, zl_in (by omega), zs_in]
  have a403 : up (up S 44 d s) 42 4 ((d : Int) + 1) 40 3 = tK t n i := by rw [up_cell _ (by decide), up_cell _ (by decide), k2]
  rw [a403]
  generalize hA : up (up S 44 d s) 42 4 ((d : Int) + 1) = A
  have A44 : ∀ q : Int, A 44 q = if q = d then s else S 44 q := fun q => by rw [← hA, up_cell _ (by decide), up_same]
  have A43 : A 43 = S 43 := by
    funext q
    rw [← hA, up_cell _ (by decide), up_cell _ (by decide)]
  have A4 : A 42 4 = d + 1 := by rw [← hA, up_eq]
  have A3 : A 42 3 = s := by rw [← hA, up_same, if_neg (by decide), up_cell _ (by decide), hs]
  have A5 : A 42 5 = 0 := by rw [← hA, up_same, if_neg (by decide), up_cell _ (by decide), h0]
  have cA : cSt t n A i := by
    refine h.fr ?_
    rw [← hA]
    exact zfr_upO (zfr_up zFr.rf (by decide)) (by decide)
  have A403 : A 40 3 = tK t n i := by rw [← hA]; exact a403
  clear hA
  have jj : ∀ t0 : Int, (t0 = 0 → tK t n i = 7) → (t0 ≠ 0 → tK t n i = 6) → zP (J_X7_readOpening_54 t0 A) (fun _ A => (oF t n i ≠ 0 → A 42 5 = oF t n i) ∧ (oF t n i = 0 → cSt t n A (oE t n i) ∧ A 42 5 = 0 ∧ A 42 3 = s + oH t n i + 1 ∧ A 42 3 ≤ tP t n (oE t n i) ∧ A 42 4 = d + 1 ∧ A 44 d = s ∧ (∀ q : Int, q < d → A 44 q = S 44 q) ∧ A 43 s = tK t n i ∧ (∀ q : Int, q < s → A 43 q = S 43 q) ∧ (tK t n i = 6 → A 43 (s + 1) = tV t n (i + 1) ∧ A 43 (s + 2) = tK t n (i + 2) ∧ A 43 (s + 3) = tV t n (i + 3)))) := by
    intro t0 ht0 ht1
    unfold J_X7_readOpening_54
    rw [A403, e_put7 (by omega), zb_some, zP_zb, A3]
    have fU : zFr [43, 44] [(42, 3), (42, 4), (42, 5)] A (up (up A 43 s (tK t n i)) 42 3 (s + 1)) := zfr_upO (zfr_up zFr.rf (by decide)) (by decide)
    refine zP_mono (e_nx (cA.fr fU)) (fun _ B hB => ?_)
    obtain ⟨cB, fB⟩ := hB
    have B5 : B 42 5 = 0 := by rw [fB 42 5 (by decide) (by decide), up_same, if_neg (by decide), up_cell _ (by decide), A5]
    have B3 : B 42 3 = s + 1 := by rw [fB 42 3 (by decide) (by decide), up_eq]
    have B4 : B 42 4 = d + 1 := by rw [fB 42 4 (by decide) (by decide), up_same, if_neg (by decide), up_cell _ (by decide), A4]
    have B44 : ∀ q : Int, B 44 q = if q = d then s else S 44 q := fun q => by rw [fB.cell 44 (by decide) (by decide), up_cell _ (by decide), up_cell _ (by decide), A44]
    have B43 : ∀ q : Int, B 43 q = if q = s then tK t n i else S 43 q := fun q => by rw [fB.cell 43 (by decide) (by decide), up_cell _ (by decide), up_same, A43]
    by_cases q0 : t0 = 0
    · rw [if_pos q0]
      have k7 := ht0 q0
      have eF : oF t n i = oG t n (i + 1) := by
        unfold oF
        rw [if_neg (by omega)]
      have eE : oE t n i = i + 2 := by
        unfold oE
        rw [if_neg (by omega)]
      have eH : oH t n i = 1 := by
        unfold oH
        rw [if_neg (by omega)]
      refine zP_mono (e_open88 cB B5 B3 (by omega)) (fun _ C hC => ?_)
      rw [eF, eE, eH]
      refine ⟨hC.1, fun z => ?_⟩
      obtain ⟨c1, c2, c3, c4, c5, c6⟩ := hC.2 z
      have k9 := (oG_r hn).2 z
      have p2 : tP t n (i + 1) + 1 ≤ tP t n (i + 2) ∧ tP t n (i + 1) < n := (tP_next (t := t) (i := i + 1) hn).2.2.1 (by omega)
      refine ⟨c1, c2, by omega, by omega, by omega, ?_, fun q hq => ?_, ?_, fun q hq => ?_, fun z => by omega⟩
      · rw [c5, B44, if_pos rfl]
      · rw [c5, B44, if_neg (by omega)]
      · rw [c6 _ (by omega), B43, if_pos rfl]
      · rw [c6 _ (by omega), B43, if_neg (by omega)]
    · rw [if_neg q0]
      have k6 := ht1 q0
      have eE : oE t n i = i + 5 := by
        unfold oE
        rw [if_pos k6]
      have eH : oH t n i = 4 := by
        unfold oH
        rw [if_pos k6]
      by_cases f1 : fN t n 1 9 (i + 1) = 0
      · have k8 := (fN_r hn).2 f1
        have p2 : tP t n (i + 1) + 1 ≤ tP t n (i + 2) ∧ tP t n (i + 1) < n := (tP_next (t := t) (i := i + 1) hn).2.2.1 (by omega)
        have b2 := tP_b (t := t) (i := i + 2) hn
        rw [zP_zb]
        refine zP_mono (e_num0 cB B5 f1 (by omega)) (fun _ C hC => ?_)
        obtain ⟨c1, c5, c3, c43, fC⟩ := hC
        have C4 : C 42 4 = d + 1 := by rw [fC 42 4 (by decide) (by decide), B4]
        have C44 : C 44 = B 44 := fC.cell 44 (by decide) (by decide)
        rw [zP_zb]
        by_cases f2 : fW t n (i + 2) = 0
        · have eF : oF t n i = oG t n (i + 4) := by
            unfold oF
            rw [if_pos k6, if_neg (fun z => z f1), if_neg (fun z => z f2)]
          have wf : tK t n (i + 2) ≤ 3 ∧ 0 ≤ tK t n (i + 2) ∧ tK t n (i + 3) = 8 ∧ 0 ≤ tV t n (i + 3) ∧ tV t n (i + 3) ≤ 16 := fW_0 hn f2
          have p3 : tP t n (i + 2) + 2 ≤ tP t n (i + 3) := (tP_next (t := t) (i := i + 2) hn).1 wf.1
          have p4 : tP t n (i + 3) + 1 ≤ tP t n (i + 4) ∧ tP t n (i + 3) < n := (tP_next (t := t) (i := i + 3) hn).2.2.1 (by have := wf.2.2.1; omega)
          have b4 := tP_b (t := t) (i := i + 4) hn
          refine zP_mono (e_way0 c1 c5 f2 (by omega)) (fun _ D hD => ?_)
          obtain ⟨d1, d5, d3, d43, fD⟩ := hD
          have D4 : D 42 4 = d + 1 := by rw [fD 42 4 (by decide) (by decide), C4]
          have D44 : D 44 = B 44 := (fD.cell 44 (by decide) (by decide)).trans C44
          have D3 : D 42 3 = s + 4 := by omega
          refine zP_mono (e_open88 d1 d5 D3 (by omega)) (fun _ E hE => ?_)
          rw [eF, eE, eH]
          refine ⟨hE.1, fun z => ?_⟩
          obtain ⟨x1, x2, x3, x4, x5, x6⟩ := hE.2 z
          have k9 := (oG_r hn).2 z
          have p5 : tP t n (i + 4) + 1 ≤ tP t n (i + 5) ∧ tP t n (i + 4) < n := (tP_next (t := t) (i := i + 4) hn).2.2.1 (by omega)
          refine ⟨x1, x2, by omega, by omega, by omega, ?_, fun q hq => ?_, ?_, fun q hq => ?_, fun _ => ⟨?_, ?_, ?_⟩⟩
          · rw [x5, D44, B44, if_pos rfl]
          · rw [x5, D44, B44, if_neg (by omega)]
          · rw [x6 _ (by omega), d43, if_neg (by omega), if_neg (by omega), c43, if_neg (by omega), B43, if_pos rfl]
          · rw [x6 _ (by omega), d43, if_neg (by omega), if_neg (by omega), c43, if_neg (by omega), B43, if_neg (by omega)]
          · rw [x6 _ (by omega), d43, if_neg (by omega), if_neg (by omega), c43, if_pos (by omega)]
          · rw [x6 _ (by omega), d43, if_neg (by omega), if_pos (by omega)]
          · rw [x6 _ (by omega), d43, if_pos (by omega)]
        · have eF : oF t n i = fW t n (i + 2) := by
            unfold oF
            rw [if_pos k6, if_neg (fun z => z f1), if_pos f2]
          refine zP_mono (e_way1 c1 c5 f2 ⟨by omega, fun _ => by omega⟩) (fun _ D hD => ?_)
          refine zP_mono (e_openF f2 hD.1 hD.2) (fun _ E hE => ?_)
          rw [eF]
          exact ⟨fun _ => hE, fun z => absurd z f2⟩
      · have eF : oF t n i = fN t n 1 9 (i + 1) := by
          unfold oF
          rw [if_pos k6, if_pos f1]
        rw [e_num1 cB B5 f1, zb_some, e_wayF (by rw [up_eq]; exact f1), zb_some]
        refine zP_mono (e_openF f1 (up_eq ..) (by rw [up_same, if_neg (by decide)]; omega)) (fun _ E hE => ?_)
        rw [eF]
        exact ⟨fun _ => hE, fun z => absurd z f1⟩
  rcases hk with q | q
  · rw [if_pos q]
    exact jj 1 (fun z => by omega) (fun _ => q)
  · rw [if_neg (by omega)]
    exact jj 0 (fun _ => q) (fun z => absurd rfl z)
/-- the end of a block -/
theorem e_close {S : HS} {j d : Nat} {s hd : Int} (hn : 0 ≤ n ∧ n ≤ 1000) (h : cSt t n S j) (h0 : S 42 5 = 0) (h4 : S 42 4 = d + 1) (hd4 : d < 4) (hs : S 44 d = s) (hk : S 43 s = 6 ∧ hd = 4 ∨ S 43 s = 7 ∧ hd = 1) (hz : 0 ≤ s ∧ s + hd < S 42 3 ∧ S 42 3 ≤ 1000) : zP (M_X7_readClosing S) (fun _ A => (tK t n (j + 1) ≠ 11 → A 42 5 = 1 + 16 * tP t n (j + 1)) ∧ (tK t n (j + 1) = 11 → cSt t n A (j + 2) ∧ A 42 5 = 0 ∧ A 42 4 = d ∧ A 44 = S 44 ∧ (S 42 3 = s + hd + 1 → A 42 3 = s ∧ A 43 = S 43) ∧ (S 42 3 ≠ s + hd + 1 → A 42 3 = S 42 3 ∧ ∀ q : Int, A 43 q = if q = s + hd then S 42 3 else S 43 q))) := by
  have pb := tP_b (t := t) (i := j + 1) hn
  unfold M_X7_readClosing
  rw [if_neg (by omega), if_pos (by omega), zP_zb]
  refine zP_mono (e_nx h) (fun _ A hA => ?_)
  obtain ⟨cA, fA⟩ := hA
  have A5 : A 42 5 = 0 := (fA 42 5 (by decide) (by decide)).trans h0
  have tail : ∀ C : HS, C 42 = A 42 ∧ C 43 = A 43 ∧ C 44 = A 44 ∨ (C 42 3 = A 42 3 ∧ C 42 4 = A 42 4 ∧ C 43 = A 43 ∧ C 44 = A 44) → zP (zl (C 42 4 - 1) fun x9 => zs (up C 42 4 x9) fun S10 => zg ((0 : Int) ≤ S10 42 4 ∧ S10 42 4 < 4) <| zb (M_X7_codeAt (S10 44 (S10 42 4)) S10) fun r12 S13 => if r12 = 6 then J_X7_readClosing_70 (S10 44 (S10 42 4)) 4 (S10 44 (S10 42 4)) S13 else J_X7_readClosing_70 (S10 44 (S10 42 4)) 1 (S10 44 (S10 42 4)) S13) (fun _ E => E 42 5 = C 42 5 ∧ E 42 4 = d ∧ E 44 = S 44 ∧ (S 42 3 = s + hd + 1 → E 42 3 = s ∧ E 43 = S 43) ∧ (S 42 3 ≠ s + hd + 1 → E 42 3 = S 42 3 ∧ ∀ q : Int, E 43 q = if q = s + hd then S 42 3 else S 43 q) ∧ zFr [43] [(42, 3), (42, 4)] C E) := by
    intro C hC
    have C3 : C 42 3 = S 42 3 := by
      rcases hC with ⟨z, -⟩ | ⟨z, -⟩
      · rw [z, fA 42 3 (by decide) (by decide)]
      · rw [z, fA 42 3 (by decide) (by decide)]
    have C4 : C 42 4 = d + 1 := by
      rcases hC with ⟨z, -⟩ | ⟨-, z, -⟩
      · rw [z, fA 42 4 (by decide) (by decide), h4]
      · rw [z, fA 42 4 (by decide) (by decide), h4]
    have C43 : C 43 = S 43 := by
      rcases hC with ⟨-, z, -⟩ | ⟨-, -, z, -⟩
      · rw [z, fA.cell 43 (by decide) (by decide)]
      · rw [z, fA.cell 43 (by decide) (by decide)]
    have C44 : C 44 = S 44 := by
      rcases hC with ⟨-, -, z⟩ | ⟨-, -, -, z⟩
      · rw [z, fA.cell 44 (by decide) (by decide)]
      · rw [z, fA.cell 44 (by decide) (by decide)]
    rw [zl_in (by omega), zs_in]
    have d4 : up C 42 4 (C 42 4 - 1) 42 4 = d := by rw [up_eq]; omega
    have d44 : up C 42 4 (C 42 4 - 1) 44 d = s := by rw [up_cell _ (by decide), C44, hs]
    rw [d4, zg_in (by omega), d44]
    unfold M_X7_codeAt
    have d3 : up C 42 4 (C 42 4 - 1) 42 3 = S 42 3 := by rw [up_same, if_neg (by decide), C3]
    have d43 : up C 42 4 (C 42 4 - 1) 43 s = S 43 s := by rw [up_cell _ (by decide), C43]
    rw [d3, if_neg (by omega), if_neg (by omega), if_neg (by omega), zg_in (by omega), zb_some, d43]
    generalize hD : up C 42 4 (C 42 4 - 1) = D at *
    have fD : zFr [43] [(42, 3), (42, 4)] C D := by
      rw [← hD]
      exact zfr_upO zFr.rf (by decide)
    have D43 : D 43 = S 43 := by
      funext q
      rw [← hD, up_cell _ (by decide), C43]
    have D44 : D 44 = S 44 := by
      funext q
      rw [← hD, up_cell _ (by decide), C44]
    have D5 : D 42 5 = C 42 5 := by rw [← hD, up_same, if_neg (by decide)]
    have fin : ∀ hd' : Int, hd' = hd → zP (J_X7_readClosing_70 s hd' s D) (fun _ E => E 42 5 = C 42 5 ∧ E 42 4 = d ∧ E 44 = S 44 ∧ (S 42 3 = s + hd + 1 → E 42 3 = s ∧ E 43 = S 43) ∧ (S 42 3 ≠ s + hd + 1 → E 42 3 = S 42 3 ∧ ∀ q : Int, E 43 q = if q = s + hd then S 42 3 else S 43 q) ∧ zFr [43] [(42, 3), (42, 4)] C E) := by
      intro hd' e
      subst e
      have h1 : 1 ≤ hd' ∧ hd' ≤ 4 := by
        rcases hk with z | z <;> omega
      unfold J_X7_readClosing_70
      rw [zl_in (by omega), zl_in (by omega), d3]
      by_cases g : S 42 3 = s + hd' + 1
      · rw [if_pos g, zs_in, zP_ret]
        refine ⟨?_, ?_, ?_, fun _ => ⟨up_eq .., ?_⟩, fun z => absurd g z, zfr_upO fD (by decide)⟩
        · rw [up_same, if_neg (by decide), D5]
        · rw [up_same, if_neg (by decide), d4]
        · rw [← D44]
          funext q
          rw [up_cell _ (by decide)]
        · rw [← D43]
          funext q
          rw [up_cell _ (by decide)]
      · rw [if_neg g, if_neg (by omega), zg_in (by omega), zs_in, zP_ret]
        refine ⟨?_, ?_, ?_, fun z => absurd z g, fun _ => ⟨?_, fun q => ?_⟩, zfr_up fD (by decide)⟩
        · rw [up_cell _ (by decide), D5]
        · rw [up_cell _ (by decide), d4]
        · rw [← D44]
          funext q
          rw [up_cell _ (by decide)]
        · rw [up_cell _ (by decide), d3]
        · rw [up_same, D43]
    rcases hk with ⟨z1, z2⟩ | ⟨z1, z2⟩
    · rw [if_pos z1]
      exact fin 4 z2.symm
    · rw [if_neg (by omega)]
      exact fin 1 z2.symm
  by_cases g : tK t n (j + 1) = 11
  · rw [zP_zb]
    refine zP_mono (e_exp0 cA A5 g) (fun _ C hC => ?_)
    obtain ⟨cC, fC⟩ := hC
    refine zP_mono (tail C (Or.inl ⟨fC.cell 42 (by decide) (by decide), fC.cell 43 (by decide) (by decide), fC.cell 44 (by decide) (by decide)⟩)) (fun _ E hE => ?_)
    obtain ⟨e1, e2, e3, e4, e5, fE⟩ := hE
    refine ⟨fun z => absurd g z, fun _ => ⟨cC.fr (zFr.mono (by decide) (by decide) fE), ?_, e2, e3, e4, e5⟩⟩
    rw [e1, fC 42 5 (by decide) (by decide), A5]
  · rw [e_exp1 cA A5 g, zb_some]
    refine zP_mono (tail _ (Or.inr ⟨?_, ?_, ?_, ?_⟩)) (fun _ E hE => ?_)
    · rw [up_same, if_neg (by decide)]
    · rw [up_same, if_neg (by decide)]
    · funext q
      rw [up_cell _ (by decide)]
    · funext q
      rw [up_cell _ (by decide)]
    · refine ⟨fun _ => ?_, fun z => absurd z g⟩
      rw [hE.1, up_eq]
end RL
