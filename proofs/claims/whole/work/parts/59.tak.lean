/-! takings: what the runs keep -/
def tPr (n w j u : Int) : Prop := j < n ∨ j = n ∧ u < w
def TQ (h p pl a tk q : Int → Int) (m n w : Int) : Prop := (∀ c : Int, 0 ≤ c → c < 192 → (pl c ≠ -1 → a c = 0 ∧ tk c = pl c) ∧ (pl c = -1 → (a c = -1 ∧ (h c = -1 → tk c = -1) ∧ (h c ≠ -1 → tk c = -2)) ∨ (gScalp h c ∧ 1 ≤ a c ∧ ∃ j u : Int, 0 ≤ j ∧ j < m ∧ tPr n w j u ∧ 0 ≤ u ∧ u < 4 ∧ gOpn h p (q j) u = c ∧ a (q j) = a c - 1 ∧ tk (q j) = tk c))) ∧ (0 ≤ m ∧ 0 ≤ n ∧ n ≤ m ∧ 0 ≤ w ∧ w ≤ 4) ∧ (∀ j : Int, 0 ≤ j → j < m → gScalp h (q j) ∧ 0 ≤ a (q j)) ∧ (∀ c : Int, 0 ≤ c → c < 192 → a c ≠ -1 → ∃ j : Int, 0 ≤ j ∧ j < m ∧ q j = c) ∧ (∀ i j : Int, 0 ≤ i → i ≤ j → j < m → a (q i) ≤ a (q j)) ∧ (∀ j : Int, 0 ≤ j → j < m → n < m → a (q j) ≤ a (q n) + 1) ∧ (∀ j u : Int, 0 ≤ j → j < m → tPr n w j u → 0 ≤ u → u < 4 → gOpn h p (q j) u ≠ -1 → a (gOpn h p (q j) u) ≠ -1 ∧ a (gOpn h p (q j) u) ≤ a (q j) + 1 ∧ (a (gOpn h p (q j) u) = a (q j) + 1 → tk (gOpn h p (q j) u) ≤ tk (q j))) ∧ (∀ c : Int, 0 ≤ c → c < 192 → a c ≠ -1 → ∃ e : Int, 0 ≤ e ∧ e < 192 ∧ pl e ≠ -1 ∧ tk c = pl e) ∧ m = zsum (fun c => if a c = -1 then 0 else 1) 192
section TQ
variable {h p pl a tk q a' tk' q' : Int → Int} {m n w : Int}
theorem TQ.le (ht : TQ h p pl a tk q m n w) : m ≤ 192 := by
  obtain ⟨-, -, -, -, -, -, -, -, hm⟩ := ht
  have := (zsum_bd (f := fun c => if a c = -1 then (0 : Int) else 1) (n := 192) (c := 1) (fun i _ _ => by show 0 ≤ (if a i = -1 then (0 : Int) else 1) ∧ (if a i = -1 then (0 : Int) else 1) ≤ 1; split <;> omega)).2
  omega
theorem TQ.lt (ht : TQ h p pl a tk q m n w) {d : Int} (h0 : 0 ≤ d) (h1 : d < 192) (hd : a d = -1) : m < 192 := by
  obtain ⟨-, -, -, -, -, -, -, -, hm⟩ := ht
  have e := zsum_upd (f := fun c => if a c = -1 then (0 : Int) else 1) (g := fun c => if c = d then 1 else if a c = -1 then (0 : Int) else 1) (n := 192) (a := d) h0 h1 (fun i _ _ k => if_neg k)
  have b := (zsum_bd (f := fun c => if c = d then 1 else if a c = -1 then (0 : Int) else 1) (n := 192) (c := 1) (fun i _ _ => by show 0 ≤ (if i = d then 1 else if a i = -1 then (0 : Int) else 1) ∧ (if i = d then 1 else if a i = -1 then (0 : Int) else 1) ≤ 1; repeat' split <;> omega)).2
  have e2 : (if a d = -1 then (0 : Int) else 1) = 0 := if_pos hd
  simp only [e2, if_true] at e
  omega
theorem TQ.skip (ht : TQ h p pl a tk q m n w) (hn : n < m) (hw : w < 4) (hd : gOpn h p (q n) w = -1 ∨ (a (gOpn h p (q n) w) ≠ -1 ∧ (a (gOpn h p (q n) w) = a (q n) + 1 → tk (gOpn h p (q n) w) ≤ tk (q n)))) : TQ h p pl a tk q m n (w + 1) := by
  obtain ⟨t1, t2, t3, t4, t5, t6, t7, t8, t9⟩ := ht
  refine ⟨fun c c0 c1 => ⟨(t1 c c0 c1).1, fun e => ?_⟩, by omega, t3, t4, t5, t6, fun j u j0 j1 k u0 u4 hne => ?_, t8, t9⟩
  · rcases (t1 c c0 c1).2 e with x | ⟨x1, x2, j, u, y1, y2, y3, y4⟩
    · exact Or.inl x
    · refine Or.inr ⟨x1, x2, j, u, y1, y2, ?_, y4⟩
      unfold tPr at *
      omega
  · by_cases e : j = n ∧ u = w
    · obtain ⟨rfl, rfl⟩ := e
      rcases hd with d | ⟨d1, d2⟩
      · exact absurd d hne
      · have hs := gOpn_scalp hne
        obtain ⟨i, i0, i1, i2⟩ := t4 _ hs.1 hs.2.1 d1
        have := t6 i i0 i1 hn
        rw [i2] at this
        exact ⟨d1, this, d2⟩
    · refine t7 j u j0 j1 ?_ u0 u4 hne
      unfold tPr at *
      omega
theorem TQ.upd (ht : TQ h p pl a tk q m n w) (hn : n < m) (hw : w < 4) (hne : gOpn h p (q n) w ≠ -1) (h1 : a (gOpn h p (q n) w) = a (q n) + 1) (h2 : tk (q n) < tk (gOpn h p (q n) w)) (htk : ∀ c : Int, tk' c = if c = gOpn h p (q n) w then tk (q n) else tk c) : TQ h p pl a tk' q m n (w + 1) := by
  have hs := gOpn_scalp hne
  obtain ⟨t1, t2, t3, t4, t5, t6, t7, t8, t9⟩ := ht
  have hqn := t3 n t2.2.1 hn
  generalize hD : gOpn h p (q n) w = d at *
  have old : ∀ j u : Int, 0 ≤ j → j < m → tPr n w j u → q j ≠ d := by
    intro j u j0 j1 k e
    have := t5 j n j0 (by unfold tPr at k; omega) hn
    rw [e] at this
    omega
  have oldn : q n ≠ d := fun e => by rw [e] at h1; omega
  refine ⟨fun c c0 c1 => ⟨fun e => ?_, fun e => ?_⟩, by omega, t3, t4, t5, t6, fun j u j0 j1 k u0 u4 hn2 => ?_, fun c c0 c1 hc => ?_, t9⟩
  · have x := (t1 c c0 c1).1 e
    refine ⟨x.1, ?_⟩
    rw [htk, if_neg (fun g => by subst g; omega)]
    exact x.2
  · by_cases g : c = d
    · subst g
      refine Or.inr ⟨hs, by omega, n, w, t2.2.1, hn, ?_, t2.2.2.2.1, hw, hD, by omega, ?_⟩
      · unfold tPr
        omega
      · rw [htk, htk, if_neg oldn, if_pos rfl]
    · rw [htk, if_neg g]
      rcases (t1 c c0 c1).2 e with x | ⟨x1, x2, j, u, y1, y2, y3, y4, y5, y6, y7, y8⟩
      · exact Or.inl x
      · refine Or.inr ⟨x1, x2, j, u, y1, y2, ?_, y4, y5, y6, y7, ?_⟩
        · unfold tPr at *
          omega
        · rw [htk, if_neg (old j u y1 y2 y3)]
          exact y8
  · by_cases e : j = n ∧ u = w
    · obtain ⟨rfl, rfl⟩ := e
      rw [hD] at hn2 ⊢
      refine ⟨by omega, by omega, fun _ => ?_⟩
      rw [htk, htk, if_pos rfl, if_neg oldn]
      exact Int.le_refl _
    · have k' : tPr n w j u := by
        unfold tPr at *
        omega
      have x := t7 j u j0 j1 k' u0 u4 hn2
      refine ⟨x.1, x.2.1, fun y => ?_⟩
      have z := x.2.2 y
      rw [htk, htk, if_neg (old j u j0 j1 k')]
      split
      · rename_i g
        rw [g] at z
        omega
      · exact z
  · rw [htk]
    split
    · have := hqn.1
      exact t8 (q n) this.1 this.2.1 (by omega)
    · exact t8 c c0 c1 hc
theorem TQ.push (ht : TQ h p pl a tk q m n w) (hn : n < m) (hw : w < 4) (hne : gOpn h p (q n) w ≠ -1) (h1 : a (gOpn h p (q n) w) = -1) (htk : ∀ c : Int, tk' c = if c = gOpn h p (q n) w then tk (q n) else tk c) (ha : ∀ c : Int, a' c = if c = gOpn h p (q n) w then a (q n) + 1 else a c) (hq : ∀ j : Int, q' j = if j = m then gOpn h p (q n) w else q j) : TQ h p pl a' tk' q' (m + 1) n (w + 1) := by
  have hs := gOpn_scalp hne
  obtain ⟨t1, t2, t3, t4, t5, t6, t7, t8, t9⟩ := ht
  have hqn := t3 n t2.2.1 hn
  generalize hD : gOpn h p (q n) w = d at *
  have old : ∀ j : Int, 0 ≤ j → j < m → q j ≠ d := by
    intro j j0 j1 e
    have := (t3 j j0 j1).2
    rw [e] at this
    omega
  have oldn := old n t2.2.1 hn
  have qq : ∀ j, j < m → q' j = q j := fun j k => by rw [hq, if_neg (by omega)]
  have qm : q' m = d := by rw [hq, if_pos rfl]
  have aq : ∀ j, 0 ≤ j → j < m → a' (q j) = a (q j) := fun j k l => by rw [ha, if_neg (old j k l)]
  have tq : ∀ j, 0 ≤ j → j < m → tk' (q j) = tk (q j) := fun j k l => by rw [htk, if_neg (old j k l)]
  have ad : a' d = a (q n) + 1 := by rw [ha, if_pos rfl]
  have mono : ∀ j, 0 ≤ j → j < m → a (q j) ≤ a (q n) + 1 := fun j k l => t6 j k l hn
  refine ⟨fun c c0 c1 => ⟨fun e => ?_, fun e => ?_⟩, by omega, fun j j0 j1 => ?_, fun c c0 c1 hc => ?_, fun i j i0 ij j1 => ?_, fun j j0 j1 _ => ?_, fun j u j0 j1 k u0 u4 hn2 => ?_, fun c c0 c1 hc => ?_, ?_⟩
  · have x := (t1 c c0 c1).1 e
    have g : c ≠ d := fun g => by subst g; omega
    rw [ha, htk, if_neg g, if_neg g]
    exact x
  · by_cases g : c = d
    · subst g
      refine Or.inr ⟨hs, by omega, n, w, t2.2.1, by omega, ?_, t2.2.2.2.1, hw, by rw [qq n hn, hD], ?_, ?_⟩
      · unfold tPr
        omega
      · rw [qq n hn, aq n t2.2.1 hn]
        omega
      · rw [qq n hn, tq n t2.2.1 hn, htk, if_pos rfl]
    · rw [ha, htk, if_neg g, if_neg g]
      rcases (t1 c c0 c1).2 e with x | ⟨x1, x2, j, u, y1, y2, y3, y4, y5, y6, y7, y8⟩
      · exact Or.inl x
      · refine Or.inr ⟨x1, x2, j, u, y1, by omega, ?_, y4, y5, by rw [qq j y2]; exact y6, by rw [qq j y2, aq j y1 y2]; exact y7, by rw [qq j y2, tq j y1 y2]; exact y8⟩
        unfold tPr at *
        omega
  · by_cases g : j = m
    · rw [g, qm]
      exact ⟨hs, by omega⟩
    · rw [qq j (by omega), aq j j0 (by omega)]
      exact t3 j j0 (by omega)
  · by_cases g : c = d
    · exact ⟨m, by omega, by omega, by rw [qm, g]⟩
    · rw [ha, if_neg g] at hc
      obtain ⟨j, j0, j1, j2⟩ := t4 c c0 c1 hc
      exact ⟨j, j0, by omega, by rw [qq j j1]; exact j2⟩
  · by_cases g : j = m
    · by_cases g2 : i = m
      · rw [g, g2]
        exact Int.le_refl _
      · rw [g, qm, ad, qq i (by omega), aq i i0 (by omega)]
        exact mono i i0 (by omega)
    · rw [qq i (by omega), qq j (by omega), aq i i0 (by omega), aq j (by omega) (by omega)]
      exact t5 i j i0 ij (by omega)
  · rw [qq n hn, aq n t2.2.1 hn]
    by_cases g : j = m
    · rw [g, qm, ad]
      exact Int.le_refl _
    · rw [qq j (by omega), aq j j0 (by omega)]
      exact mono j j0 (by omega)
  · have jm : j < m := by
      unfold tPr at k
      omega
    rw [qq j jm] at hn2 ⊢
    rw [aq j j0 jm, tq j j0 jm]
    by_cases e : j = n ∧ u = w
    · obtain ⟨rfl, rfl⟩ := e
      rw [hD, ad, htk, if_pos rfl]
      exact ⟨by omega, by omega, fun _ => Int.le_refl _⟩
    · have k' : tPr n w j u := by
        unfold tPr at *
        omega
      have x := t7 j u j0 jm k' u0 u4 hn2
      have g : gOpn h p (q j) u ≠ d := fun g => by rw [g] at x; exact x.1 h1
      rw [ha, htk, if_neg g, if_neg g]
      exact x
  · by_cases g : c = d
    · rw [htk, if_pos g]
      have := hqn.1
      exact t8 (q n) this.1 this.2.1 (by omega)
    · rw [ha, if_neg g] at hc
      rw [htk, if_neg g]
      exact t8 c c0 c1 hc
  · rw [zsum_upd (f := fun c => if a c = -1 then (0 : Int) else 1) (g := fun c => if a' c = -1 then (0 : Int) else 1) (a := d) hs.1 hs.2.1 (fun i _ _ k => by show (if a' i = -1 then (0 : Int) else 1) = _; rw [ha, if_neg k]), ← t9]
    have e1 : (if a' d = -1 then (0 : Int) else 1) = 1 := if_neg (by omega)
    have e2 : (if a d = -1 then (0 : Int) else 1) = 0 := if_pos h1
    show m + 1 = m + ((if a' d = -1 then (0 : Int) else 1) - if a d = -1 then 0 else 1)
    rw [e1, e2]
    omega
theorem TQ.next (ht : TQ h p pl a tk q m n 4) (hn : n < m) : TQ h p pl a tk q m (n + 1) 0 := by
  obtain ⟨t1, t2, t3, t4, t5, t6, t7, t8, t9⟩ := ht
  refine ⟨fun c c0 c1 => ⟨(t1 c c0 c1).1, fun e => ?_⟩, by omega, t3, t4, t5, fun j j0 j1 k => ?_, fun j u j0 j1 k u0 u4 hne => ?_, t8, t9⟩
  · rcases (t1 c c0 c1).2 e with x | ⟨x1, x2, j, u, y1, y2, y3, y4⟩
    · exact Or.inl x
    · refine Or.inr ⟨x1, x2, j, u, y1, y2, ?_, y4⟩
      unfold tPr at *
      omega
  · have := t6 j j0 j1 hn
    have := t5 n (n + 1) t2.2.1 (by omega) k
    omega
  · refine t7 j u j0 j1 ?_ u0 u4 hne
    unfold tPr at *
    omega
theorem TQ.done (ht : TQ h p pl a tk q m m 0) : gTak h p pl a tk := by
  obtain ⟨t1, t2, t3, t4, t5, t6, t7, t8, t9⟩ := ht
  have pr : ∀ j u : Int, j < m → tPr m 0 j u := fun j u k => Or.inl k
  intro c hc
  refine ⟨(t1 c hc.1 hc.2.1).1, fun e => ?_⟩
  have back : ∀ w : Int, 0 ≤ w → w < 4 → gOpn h p c w ≠ -1 → a (gOpn h p c w) ≠ -1 → ∃ j u : Int, 0 ≤ j ∧ j < m ∧ 0 ≤ u ∧ u < 4 ∧ q j = gOpn h p c w ∧ gOpn h p (q j) u = c := by
    intro w w0 w4 hne ha
    have hs := gOpn_scalp hne
    obtain ⟨j, j0, j1, j2⟩ := t4 _ hs.1 hs.2.1 ha
    obtain ⟨u, u0, u4, u5⟩ := gOpn_sym hc w0 w4 hne
    exact ⟨j, u, j0, j1, u0, u4, j2, by rw [j2]; exact u5⟩
  have c0 := hc.1
  rcases (t1 c hc.1 hc.2.1).2 e with ⟨x1, x2, x3⟩ | ⟨x1, x2, j, u, y1, y2, y3, y4, y5, y6, y7, y8⟩
  · refine Or.inl ⟨x1, x3 hc.2.2, fun w w0 w4 hne => ?_⟩
    by_cases g : a (gOpn h p c w) = -1
    · exact g
    · obtain ⟨j, u, j0, j1, u0, u4, k1, k2⟩ := back w w0 w4 hne g
      have := (t7 j u j0 j1 (pr j u j1) u0 u4 (by rw [k2]; omega)).1
      rw [k2] at this
      exact absurd x1 this
  · refine Or.inr ⟨x2, ?_, fun w w0 w4 hne => ?_⟩
    · have sj := (t3 j y1 y2).1
      have ne : gOpn h p (q j) u ≠ -1 := by rw [y6]; omega
      obtain ⟨w, w0, w4, w5⟩ := gOpn_sym sj y4 y5 ne
      rw [y6] at w5
      have := sj.1
      exact ⟨w, w0, w4, by rw [w5]; omega, by rw [w5]; exact y7, by rw [w5]; exact y8⟩
    · by_cases g : a (gOpn h p c w) = -1
      · exact Or.inl g
      · obtain ⟨j', u', j0, j1, u0, u4, k1, k2⟩ := back w w0 w4 hne g
        have x := t7 j' u' j0 j1 (pr j' u' j1) u0 u4 (by rw [k2]; omega)
        rw [k2, k1] at x
        by_cases l : a c ≤ a (gOpn h p c w)
        · exact Or.inr (Or.inl l)
        · exact Or.inr (Or.inr ⟨by omega, x.2.2 (by omega)⟩)
/-- there is one such taking -/
theorem gTak_one (ht : gTak h p pl a tk) (ht' : gTak h p pl a' tk') (d : Nat) (ih : ∀ d' : Nat, d' < d → ∀ c : Int, gScalp h c → (a c = d' ↔ a' c = d') ∧ (a c = d' → tk c = tk' c)) {c : Int} (hc : gScalp h c) (hd : a c = d) : a' c = d ∧ tk c = tk' c := by
  by_cases e : pl c = -1
  · rcases (ht c hc).2 e with ⟨x1, -, -⟩ | ⟨x1, ⟨w, w0, w4, y1, y2, y3⟩, x3⟩
    · omega
    · have hs := gOpn_scalp y1
      have i1 := ih (d - 1) (by omega) _ hs
      have e1 : a (gOpn h p c w) = ((d - 1 : Nat) : Int) := by omega
      have e2 := i1.1.mp e1
      have e3 := i1.2 e1
      rcases (ht' c hc).2 e with ⟨z1, -, z3⟩ | ⟨z1, ⟨w', v0, v4, z4, z5, z6⟩, z7⟩
      · have := z3 w w0 w4 y1
        omega
      · rcases z7 w w0 w4 y1 with g | g | ⟨g1, g2⟩
        · omega
        · obtain ⟨k, hk⟩ := Int.eq_ofNat_of_zero_le (show 0 ≤ a' c by omega)
          have := (ih k (by omega) c hc).1.mpr hk
          omega
        · refine ⟨by omega, ?_⟩
          have hs' := gOpn_scalp z4
          have i2 := ih (d - 1) (by omega) _ hs'
          have e4 := i2.1.mpr (by omega)
          have e5 := i2.2 e4
          rcases x3 w' v0 v4 z4 with g | g | ⟨g3, g4⟩ <;> omega
  · have x := (ht c hc).1 e
    have y := (ht' c hc).1 e
    exact ⟨by omega, by omega⟩
theorem gTak_eq (ht : gTak h p pl a tk) (ht' : gTak h p pl a' tk') {c : Int} (hc : gScalp h c) : tk c = tk' c := by
  have key : ∀ d : Nat, ∀ c : Int, gScalp h c → (a c = d ↔ a' c = d) ∧ (a c = d → tk c = tk' c) := by
    intro d
    induction d using Nat.strongRecOn with
    | ind d ih =>
      intro c hc
      have k1 := fun hd => gTak_one ht ht' d ih hc hd
      have k2 := fun hd => gTak_one ht' ht d (fun d' hd' c hc => by
        have := ih d' hd' c hc
        exact ⟨this.1.symm, fun x => (this.2 (this.1.mpr x)).symm⟩) hc hd
      exact ⟨⟨fun x => (k1 x).1, fun x => (k2 x).1⟩, fun x => (k1 x).2⟩
  by_cases e : pl c = -1
  · rcases (ht c hc).2 e with ⟨x1, x2, -⟩ | ⟨x1, -, -⟩
    · rcases (ht' c hc).2 e with ⟨z1, z2, -⟩ | ⟨z1, -, -⟩
      · rw [x2, z2]
      · obtain ⟨k, hk⟩ := Int.eq_ofNat_of_zero_le (show 0 ≤ a' c by omega)
        have := (key k c hc).1.mpr hk
        omega
    · obtain ⟨k, hk⟩ := Int.eq_ofNat_of_zero_le (show 0 ≤ a c by omega)
      exact (key k c hc).2 hk
  · rw [((ht c hc).1 e).2, ((ht' c hc).1 e).2]
end TQ
