/-! regions: what the two runs keep -/
section OP
variable {h p : Int → Int} {c w : Int}
theorem gOpn_of (hne : gOpn h p c w ≠ -1) : gOpn h p c w = gBes c w ∧ (0 ≤ gBes c w ∧ gBes c w < 192 ∧ h (gBes c w) ≠ -1) ∧ p (gSide c w) = -1 := by
  unfold gOpn at hne ⊢
  split at hne
  · rename_i q
    rw [if_pos q]
    exact ⟨rfl, q⟩
  · exact absurd rfl hne
theorem gOpn_scalp (hne : gOpn h p c w ≠ -1) : gScalp h (gOpn h p c w) := by
  obtain ⟨e, q, -⟩ := gOpn_of hne
  rw [e]
  exact q
theorem gOpn_mk {d : Int} (e : gBes c w = d) (h1 : 0 ≤ d ∧ d < 192 ∧ h d ≠ -1) (h2 : p (gSide c w) = -1) : gOpn h p c w = d := by
  unfold gOpn
  rw [e, if_pos ⟨h1, h2⟩]
theorem gBes_0 (h0 : 0 ≤ c ∧ c < 192) : gBes c 0 = if 16 ≤ c then c - 16 else -1 := by
  unfold gBes gAt
  rw [show gAcr 0 = 0 from rfl, show gDwn 0 = -1 from rfl]
  repeat' split
  all_goals omega
theorem gBes_1 (h0 : 0 ≤ c ∧ c < 192) : gBes c 1 = if c < 176 then c + 16 else -1 := by
  unfold gBes gAt
  rw [show gAcr 1 = 0 from rfl, show gDwn 1 = 1 from rfl]
  repeat' split
  all_goals omega
theorem gBes_2 (h0 : 0 ≤ c ∧ c < 192) : gBes c 2 = if 1 ≤ c % 16 then c - 1 else -1 := by
  unfold gBes gAt
  rw [show gAcr 2 = -1 from rfl, show gDwn 2 = 0 from rfl]
  repeat' split
  all_goals omega
theorem gBes_3 (h0 : 0 ≤ c ∧ c < 192) : gBes c 3 = if c % 16 < 15 then c + 1 else -1 := by
  unfold gBes gAt
  rw [show gAcr 3 = 1 from rfl, show gDwn 3 = 0 from rfl]
  repeat' split
  all_goals omega
theorem gOpn_sym (hc : gScalp h c) (h0 : 0 ≤ w) (h4 : w < 4) (hne : gOpn h p c w ≠ -1) : ∃ w' : Int, 0 ≤ w' ∧ w' < 4 ∧ gOpn h p (gOpn h p c w) w' = c := by
  obtain ⟨e, q1, q2⟩ := gOpn_of hne
  rw [e]
  have hr : 0 ≤ c ∧ c < 192 := ⟨hc.1, hc.2.1⟩
  have hw : w = 0 ∨ w = 1 ∨ w = 2 ∨ w = 3 := by omega
  rcases hw with rfl | rfl | rfl | rfl
  · rw [gBes_0 hr] at q1 ⊢
    by_cases g : 16 ≤ c
    · rw [if_pos g] at q1 ⊢
      refine ⟨1, by decide, by decide, gOpn_mk ?_ hc ?_⟩
      · rw [gBes_1 (by omega), if_pos (by omega)]
        omega
      · rw [← q2]
        show p (c - 16 + 16) = p c
        rw [show c - 16 + 16 = c by omega]
    · rw [if_neg g] at q1
      omega
  · rw [gBes_1 hr] at q1 ⊢
    by_cases g : c < 176
    · rw [if_pos g] at q1 ⊢
      refine ⟨0, by decide, by decide, gOpn_mk ?_ hc ?_⟩
      · rw [gBes_0 (by omega), if_pos (by omega)]
        omega
      · rw [← q2]
        rfl
    · rw [if_neg g] at q1
      omega
  · rw [gBes_2 hr] at q1 ⊢
    by_cases g : 1 ≤ c % 16
    · rw [if_pos g] at q1 ⊢
      refine ⟨3, by decide, by decide, gOpn_mk ?_ hc ?_⟩
      · rw [gBes_3 (by omega), if_pos (by omega)]
        omega
      · rw [← q2]
        show p (208 + 17 * ((c - 1) / 16) + (c - 1) % 16 + 1) = p (208 + 17 * (c / 16) + c % 16)
        rw [show 208 + 17 * ((c - 1) / 16) + (c - 1) % 16 + 1 = 208 + 17 * (c / 16) + c % 16 by omega]
    · rw [if_neg g] at q1
      omega
  · rw [gBes_3 hr] at q1 ⊢
    by_cases g : c % 16 < 15
    · rw [if_pos g] at q1 ⊢
      refine ⟨2, by decide, by decide, gOpn_mk ?_ hc ?_⟩
      · rw [gBes_2 (by omega), if_pos (by omega)]
        omega
      · rw [← q2]
        show p (208 + 17 * ((c + 1) / 16) + (c + 1) % 16) = p (208 + 17 * (c / 16) + c % 16 + 1)
        rw [show 208 + 17 * ((c + 1) / 16) + (c + 1) % 16 = 208 + 17 * (c / 16) + c % 16 + 1 by omega]
    · rw [if_neg g] at q1
      omega
end OP
/-- all cells before v are named -/
def RG (h p f : Int → Int) (v : Int) : Prop := (∀ c : Int, 0 ≤ c → c < 192 → f c = -1 ∨ (gScalp h c ∧ 0 ≤ f c ∧ f c ≤ c ∧ f c < v ∧ gRch h p c (f c))) ∧ (∀ c w : Int, gScalp h c → f c ≠ -1 → 0 ≤ w → w < 4 → gOpn h p c w ≠ -1 → f (gOpn h p c w) = f c) ∧ (∀ c : Int, gScalp h c → c < v → f c ≠ -1)
def rcn (f : Int → Int) : Int := zsum (fun c => if f c = c then 1 else 0) 192
/-- the name x spreads from the queue q -/
def RN (h p f0 f q : Int → Int) (m n w x : Int) : Prop := (∀ c : Int, 0 ≤ c → c < 192 → f c = f0 c ∨ (f0 c = -1 ∧ f c = x)) ∧ (1 ≤ m ∧ 0 ≤ n ∧ n ≤ m ∧ 0 ≤ w ∧ w ≤ 4 ∧ f x = x) ∧ (∀ j : Int, 0 ≤ j → j < m → gScalp h (q j) ∧ f0 (q j) = -1 ∧ f (q j) = x ∧ gRch h p (q j) x) ∧ (∀ c : Int, 0 ≤ c → c < 192 → f c = x → ∃ j : Int, 0 ≤ j ∧ j < m ∧ q j = c) ∧ (∀ j u : Int, 0 ≤ j → j < m → (j < n ∨ j = n ∧ u < w) → 0 ≤ u → u < 4 → gOpn h p (q j) u ≠ -1 → f (gOpn h p (q j) u) = x) ∧ m = zsum (fun c => if f c = x then 1 else 0) 192
section RG
variable {h p f0 f q f' q' : Int → Int} {m n w x v : Int}
theorem RG.init (hf : ∀ c : Int, 0 ≤ c → c < 192 → f c = -1) : RG h p f 0 := by
  refine ⟨fun c a b => Or.inl (hf c a b), fun c w hc hne => absurd (hf c hc.1 hc.2.1) hne, fun c hc hv => ?_⟩
  have := hc.1
  omega
theorem RG.skip (hg : RG h p f v) (hv : ¬ gScalp h v ∨ f v ≠ -1) : RG h p f (v + 1) := by
  obtain ⟨a, b, c⟩ := hg
  refine ⟨fun d d0 d1 => ?_, b, fun d hd hv' => ?_⟩
  · rcases a d d0 d1 with e | ⟨e1, e2, e3, e4, e5⟩
    · exact Or.inl e
    · exact Or.inr ⟨e1, e2, e3, by omega, e5⟩
  · by_cases e : d = v
    · subst e
      rcases hv with k | k
      · exact absurd hd k
      · exact k
    · exact c d hd (by omega)
theorem RN.le (hr : RN h p f0 f q m n w x) : m ≤ 192 := by
  obtain ⟨-, -, -, -, -, hm⟩ := hr
  have := (zsum_bd (f := fun c => if f c = x then (1 : Int) else 0) (n := 192) (c := 1) (fun i _ _ => by show 0 ≤ (if f i = x then (1 : Int) else 0) ∧ (if f i = x then (1 : Int) else 0) ≤ 1; split <;> omega)).2
  omega
theorem RN.init (hg : RG h p f0 x) (hx : gScalp h x) (hx0 : f0 x = -1) (hf : ∀ c : Int, f c = if c = x then x else f0 c) (hq : q 0 = x) : RN h p f0 f q 1 0 0 x := by
  have x1 := hx.1
  have x2 := hx.2.1
  have fx : f x = x := by rw [hf, if_pos rfl]
  have ne : ∀ c : Int, 0 ≤ c → c < 192 → c ≠ x → f c ≠ x := by
    intro c a b k
    rw [hf, if_neg k]
    rcases hg.1 c a b with e | ⟨e1, e2, e3, e4, e5⟩ <;> omega
  refine ⟨fun c a b => ?_, ⟨by omega, by omega, by omega, by omega, by omega, fx⟩, fun j a b => ?_, fun c a b e => ?_, fun j u a b k u0 u4 hne => ?_, ?_⟩
  · by_cases k : c = x
    · subst k
      exact Or.inr ⟨hx0, fx⟩
    · exact Or.inl (by rw [hf, if_neg k])
  · have : j = 0 := by omega
    subst this
    rw [hq]
    exact ⟨hx, hx0, fx, fun g _ => rfl⟩
  · refine ⟨0, by omega, by omega, ?_⟩
    rw [hq]
    by_cases k : c = x
    · exact k.symm
    · exact absurd e (ne c a b k)
  · omega
  · rw [zsum_one (a := x) x1 x2 (fun i a b k => if_neg (ne i a b k))]
    exact (if_pos fx).symm
theorem RN.seen (hg : RG h p f0 x) (hr : RN h p f0 f q m n w x) (hn : n < m) (hw : w < 4) (hne : gOpn h p (q n) w ≠ -1) (hf : f (gOpn h p (q n) w) ≠ -1) : f (gOpn h p (q n) w) = x := by
  obtain ⟨r1, r2, r3, r4, r5, r6⟩ := hr
  have hs := gOpn_scalp hne
  obtain ⟨s1, s2, s3, s4⟩ := r3 n r2.2.1 hn
  rcases r1 _ hs.1 hs.2.1 with e | ⟨e1, e2⟩
  · obtain ⟨w', w0, w4, e'⟩ := gOpn_sym s1 r2.2.2.2.1 hw hne
    have := hg.2.1 _ w' hs (by rw [← e]; exact hf) w0 w4 (by rw [e']; have := s1.1; omega)
    rw [e', s2] at this
    rw [e] at hf
    exact absurd this.symm hf
  · exact e2
theorem RN.skip (hr : RN h p f0 f q m n w x) (hn : n < m) (hw : w < 4) (hd : gOpn h p (q n) w = -1 ∨ f (gOpn h p (q n) w) = x) : RN h p f0 f q m n (w + 1) x := by
  obtain ⟨r1, r2, r3, r4, r5, r6⟩ := hr
  refine ⟨r1, by omega, r3, r4, fun j u a b k u0 u4 hne => ?_, r6⟩
  by_cases e : j = n ∧ u = w
  · obtain ⟨rfl, rfl⟩ := e
    rcases hd with d | d
    · exact absurd d hne
    · exact d
  · exact r5 j u a b (by omega) u0 u4 hne
theorem RN.push (hr : RN h p f0 f q m n w x) (hn : n < m) (hw : w < 4) (hne : gOpn h p (q n) w ≠ -1) (hd : f (gOpn h p (q n) w) = -1) (hx0 : 0 ≤ x) (hf : ∀ c : Int, f' c = if c = gOpn h p (q n) w then x else f c) (hq : ∀ j : Int, q' j = if j = m then gOpn h p (q n) w else q j) : RN h p f0 f' q' (m + 1) n (w + 1) x := by
  have hs := gOpn_scalp hne
  obtain ⟨r1, r2, r3, r4, r5, r6⟩ := hr
  generalize hD : gOpn h p (q n) w = d at *
  have qq : ∀ j, j < m → q' j = q j := fun j k => by rw [hq, if_neg (by omega)]
  have hdx : d ≠ x := fun k => by rw [k, r2.2.2.2.2.2] at hd; omega
  refine ⟨fun c a b => ?_, ⟨by omega, by omega, by omega, by omega, by omega, ?_⟩, fun j a b => ?_, fun c a b e => ?_, fun j u a b k u0 u4 hne2 => ?_, ?_⟩
  · rw [hf]
    by_cases k : c = d
    · subst k
      rw [if_pos rfl]
      right
      rcases r1 c a b with e | ⟨e1, e2⟩
      · exact ⟨by rw [← e]; exact hd, rfl⟩
      · exact ⟨e1, rfl⟩
    · rw [if_neg k]
      exact r1 c a b
  · rw [hf, if_neg (fun k => hdx k.symm)]
    exact r2.2.2.2.2.2
  · by_cases k : j = m
    · subst k
      rw [hq, if_pos rfl]
      refine ⟨hs, ?_, by rw [hf, if_pos rfl], fun g hg => ?_⟩
      · rcases r1 d hs.1 hs.2.1 with e | ⟨e1, e2⟩
        · rw [← e]
          exact hd
        · exact e1
      · obtain ⟨s1, s2, s3, s4⟩ := r3 n r2.2.1 hn
        have e1 := hg (q n) w s1 r2.2.2.2.1 hw (by rw [hD]; exact hne)
        rw [hD] at e1
        rw [s4 g hg, e1]
    · rw [qq j (by omega)]
      obtain ⟨s1, s2, s3, s4⟩ := r3 j a (by omega)
      refine ⟨s1, s2, ?_, s4⟩
      rw [hf]
      split
      · rfl
      · exact s3
  · rw [hf] at e
    by_cases k : c = d
    · exact ⟨m, by omega, by omega, by rw [hq, if_pos rfl, k]⟩
    · rw [if_neg k] at e
      obtain ⟨j, j0, j1, j2⟩ := r4 c a b e
      exact ⟨j, j0, by omega, by rw [qq j j1, j2]⟩
  · have hjm : j < m := by omega
    rw [qq j hjm] at hne2 ⊢
    rw [hf]
    split
    · rfl
    · rename_i k2
      by_cases e : j = n ∧ u = w
      · obtain ⟨rfl, rfl⟩ := e
        exact absurd hD k2
      · exact r5 j u a hjm (by omega) u0 u4 hne2
  · rw [zsum_upd (f := fun c => if f c = x then (1 : Int) else 0) (g := fun c => if f' c = x then (1 : Int) else 0) (a := d) hs.1 hs.2.1 (fun i _ _ k => by show (if f' i = x then (1 : Int) else 0) = _; rw [hf, if_neg k]), ← r6]
    have e1 : (if f' d = x then (1 : Int) else 0) = 1 := if_pos (by rw [hf, if_pos rfl])
    have e2 : (if f d = x then (1 : Int) else 0) = 0 := if_neg (by omega)
    show m + 1 = m + ((if f' d = x then (1 : Int) else 0) - if f d = x then 1 else 0)
    rw [e1, e2]
    omega
theorem RN.next (hr : RN h p f0 f q m n 4 x) (hn : n < m) : RN h p f0 f q m (n + 1) 0 x := by
  obtain ⟨r1, r2, r3, r4, r5, r6⟩ := hr
  exact ⟨r1, by omega, r3, r4, fun j u a b k u0 u4 hne => r5 j u a b (by omega) u0 u4 hne, r6⟩
theorem RN.lt (hr : RN h p f0 f q m n w x) {d : Int} (h0 : 0 ≤ d) (h1 : d < 192) (hd : f d ≠ x) : m < 192 := by
  obtain ⟨-, -, -, -, -, hm⟩ := hr
  have e := zsum_upd (f := fun c => if f c = x then (1 : Int) else 0) (g := fun c => if c = d then 1 else if f c = x then (1 : Int) else 0) (n := 192) (a := d) h0 h1 (fun i _ _ k => if_neg k)
  have b := (zsum_bd (f := fun c => if c = d then 1 else if f c = x then (1 : Int) else 0) (n := 192) (c := 1) (fun i _ _ => by show 0 ≤ (if i = d then 1 else if f i = x then (1 : Int) else 0) ∧ (if i = d then 1 else if f i = x then (1 : Int) else 0) ≤ 1; repeat' split <;> omega)).2
  have e1 : (if d = d then 1 else if f d = x then (1 : Int) else 0) = 1 := if_pos rfl
  have e2 : (if f d = x then (1 : Int) else 0) = 0 := if_neg hd
  simp only [e2, if_true] at e
  omega
theorem RN.done (hg : RG h p f0 x) (hx : gScalp h x) (hx0 : f0 x = -1) (hr : RN h p f0 f q m m 0 x) : RG h p f (x + 1) ∧ rcn f = rcn f0 + 1 := by
  have x1 := hx.1
  have x2 := hx.2.1
  obtain ⟨r1, r2, r3, r4, r5, r6⟩ := hr
  have fx := r2.2.2.2.2.2
  refine ⟨⟨fun c a b => ?_, fun c w hc hne w0 w4 ho => ?_, fun c hc hv => ?_⟩, ?_⟩
  · rcases r1 c a b with e | ⟨e1, e2⟩
    · rw [e]
      rcases hg.1 c a b with e | ⟨e1, e2, e3, e4, e5⟩
      · exact Or.inl e
      · exact Or.inr ⟨e1, e2, e3, by omega, e5⟩
    · obtain ⟨j, j0, j1, j2⟩ := r4 c a b e2
      obtain ⟨s1, s2, s3, s4⟩ := r3 j j0 j1
      rw [j2] at s1 s4
      rw [e2]
      refine Or.inr ⟨s1, x1, ?_, by omega, s4⟩
      by_cases k : c < x
      · exact absurd e1 (hg.2.2 c s1 k)
      · omega
  · rcases r1 c hc.1 hc.2.1 with e | ⟨e1, e2⟩
    · rw [e] at hne ⊢
      have k := hg.2.1 c w hc hne w0 w4 ho
      have ks := gOpn_scalp ho
      rcases r1 _ ks.1 ks.2.1 with e' | ⟨e1', e2'⟩
      · rw [e', k]
      · rw [k] at e1'
        exact absurd e1' hne
    · obtain ⟨j, j0, j1, j2⟩ := r4 c hc.1 hc.2.1 e2
      rw [e2, ← j2]
      exact r5 j w j0 j1 (by omega) w0 w4 (by rw [j2]; exact ho)
  · by_cases k : c = x
    · subst k
      rw [fx]
      omega
    · rcases r1 c hc.1 hc.2.1 with e | ⟨e1, e2⟩
      · rw [e]
        exact hg.2.2 c hc (by omega)
      · rw [e2]
        omega
  · unfold rcn
    rw [zsum_upd (f := fun c => if f0 c = c then (1 : Int) else 0) (g := fun c => if f c = c then (1 : Int) else 0) (a := x) x1 x2 (fun i a b k => ?_)]
    · have e1 : (if f x = x then (1 : Int) else 0) = 1 := if_pos fx
      have e2 : (if f0 x = x then (1 : Int) else 0) = 0 := if_neg (by omega)
      show zsum (fun c => if f0 c = c then (1 : Int) else 0) 192 + ((if f x = x then (1 : Int) else 0) - if f0 x = x then 1 else 0) = _
      rw [e1, e2]
      omega
    · show (if f i = i then (1 : Int) else 0) = if f0 i = i then 1 else 0
      rcases r1 i a b with e | ⟨e1, e2⟩
      · rw [e]
      · rw [if_neg (by omega), if_neg (by omega)]
theorem RG.reg (hg : RG h p f 192) : gReg h p f := by
  obtain ⟨a, b, c⟩ := hg
  refine ⟨fun d d0 d1 hd => ?_, fun d hd => ?_, fun d w hd w0 w4 hne => ?_⟩
  · rcases a d d0 d1 with e | ⟨e1, -⟩
    · exact e
    · exact absurd hd e1.2.2
  · rcases a d hd.1 hd.2.1 with e | ⟨e1, e2, e3, e4, e5⟩
    · exact absurd e (c d hd hd.2.1)
    · exact ⟨e2, e3, e5⟩
  · exact b d w hd (c d hd hd.2.1) w0 w4 hne
theorem gReg_eq {g : Int → Int} (hf : gReg h p f) (hg : gReg h p g) {c : Int} (h0 : 0 ≤ c) (h1 : c < 192) : f c = g c := by
  by_cases hc : h c = -1
  · rw [hf.1 c h0 h1 hc, hg.1 c h0 h1 hc]
  · have sc : gScalp h c := ⟨h0, h1, hc⟩
    have key : ∀ f g : Int → Int, gReg h p f → gReg h p g → g c ≤ f c := by
      intro f g hf hg
      obtain ⟨f1, f2, f3⟩ := hf.2.1 c sc
      have e := f3 g hg.2.2
      by_cases k : h (f c) = -1
      · have := hg.1 (f c) f1 (by omega) k
        have := (hg.2.1 c sc).1
        omega
      · have := (hg.2.1 (f c) ⟨f1, by omega, k⟩).2.1
        omega
    have a := key f g hf hg
    have b := key g f hg hf
    omega
end RG
