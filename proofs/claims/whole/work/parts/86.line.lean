/-! a line: the class -/
def yN (t : Int → Int) (n : Int) (i : Nat) : Nat := nW t n 1001 (i + 5)
def yE (t : Int → Int) (n : Int) (i : Nat) : Nat := i + 5 + 2 * yN t n i
def yF (t : Int → Int) (n mx my : Int) (i : Nat) : Int := if fN t n 0 mx (i + 1) ≠ 0 then fN t n 0 mx (i + 1) else if fN t n 0 my (i + 2) ≠ 0 then fN t n 0 my (i + 2) else if fW t n (i + 3) ≠ 0 then fW t n (i + 3) else if tK t n (yE t n i) = 11 then 0 else fW t n (yE t n i)
section LI
variable {t : Int → Int} {n : Int} {m : Nat}
theorem tK_m (hm : tP t n m = n) {i : Nat} (hi : i ≤ m) (h : tK t n i ≠ 12) : i < m := by
  by_cases g : i = m
  · subst g
    exact absurd (by unfold tK kKi; rw [if_pos (by omega)]) h
  · omega
theorem fW_0 {i : Nat} (hn : 0 ≤ n ∧ n ≤ 1000) (h : fW t n i = 0) : tK t n i ≤ 3 ∧ 0 ≤ tK t n i ∧ tK t n (i + 1) = 8 ∧ 0 ≤ tV t n (i + 1) ∧ tV t n (i + 1) ≤ 16 := by
  have a := tP_b (t := t) (i := i) hn
  have b := tP_b (t := t) (i := i + 1) hn
  have k0 := (kKi_r (t := t) (n := n) (p := tP t n i)).1
  unfold fW fN at h
  split at h
  · omega
  · split at h
    · rename_i g1 g2
      have v := (tP_next (t := t) (i := i + 1) hn).2.2.2 g2
      split at h
      · omega
      · exact ⟨by omega, k0, g2, v.1.1, by omega⟩
    · omega
theorem nW_sp (hn : 0 ≤ n ∧ n ≤ 1000) (hm : tP t n m = n) : ∀ (g i : Nat), i ≤ m → m + 1 ≤ i + g → (∀ j : Nat, j < nW t n g i → fW t n (i + 2 * j) = 0) ∧ i + 2 * nW t n g i ≤ m ∧ (tK t n (i + 2 * nW t n g i) = 11 ∨ fW t n (i + 2 * nW t n g i) ≠ 0) := by
  intro g
  induction g with
  | zero =>
    intro i h1 h2
    omega
  | succ g ih =>
    intro i h1 h2
    unfold nW
    by_cases q : tK t n i = 11 ∨ fW t n i ≠ 0
    · rw [if_pos q]
      exact ⟨fun j hj => by omega, h1, q⟩
    · rw [if_neg q]
      have f0 : fW t n i = 0 := by
        by_cases z : fW t n i = 0
        · exact z
        · exact absurd (Or.inr z) q
      have w := fW_0 hn f0
      have i1 := tK_m hm h1 (show tK t n i ≠ 12 by omega)
      have i2 := tK_m hm (show i + 1 ≤ m by omega) (show tK t n (i + 1) ≠ 12 by omega)
      obtain ⟨x1, x2, x3⟩ := ih (i + 2) (by omega) (by omega)
      have e : i + 2 * (nW t n g (i + 2) + 1) = i + 2 + 2 * nW t n g (i + 2) := by omega
      rw [e]
      refine ⟨fun j hj => ?_, x2, x3⟩
      cases j with
      | zero => exact f0
      | succ j =>
        have := x1 j (by omega)
        rw [show i + 2 * (j + 1) = i + 2 + 2 * j by omega]
        exact this
theorem e_ways {k : Int → HS → zO2} {c : Int} {Q : Int → HS → Prop} (hn : 0 ≤ n ∧ n ≤ 1000) (hm : tP t n m = n) (hm1 : m ≤ 1000) : ∀ (g i : Nat) (S : HS) (w : Int) (N : Nat), i ≤ m → m + 1 ≤ i + g → g + 1 < N → cSt t n S i → S 42 5 = 0 → (0 ≤ w ∧ w ≤ i) → (0 ≤ S 42 3 ∧ S 42 3 ≤ tP t n i) → (tK t n (i + 2 * nW t n g i) = 11 → ∀ S' : HS, cSt t n S' (i + 2 * nW t n g i) → S' 42 5 = 0 → S' 42 3 = S 42 3 + 2 * nW t n g i → S' 42 3 ≤ tP t n (i + 2 * nW t n g i) → (∀ q : Int, q < S 42 3 → S' 43 q = S 43 q) → (∀ j : Nat, j < nW t n g i → S' 43 (S 42 3 + 2 * j) = tK t n (i + 2 * j) ∧ S' 43 (S 42 3 + 2 * j + 1) = tV t n (i + 2 * j + 1)) → zFr [43] cO S S' → zP (k (w + nW t n g i) S') Q) → (tK t n (i + 2 * nW t n g i) ≠ 11 → ∀ (S' : HS) (w' : Int), S' 42 5 = fW t n (i + 2 * nW t n g i) → S' 42 5 ≠ 0 → 0 ≤ S' 42 3 → zP (k w' S') Q) → zP (L_X7_readLine_47 k c N w S) Q := by
  intro g
  induction g with
  | zero =>
    intro i S w N h1 h2
    omega
  | succ g ih =>
    intro i S w N h1 h2 hN hc h0 hw hs hok hbad
    obtain ⟨N, rfl⟩ : ∃ N', N = N' + 1 := ⟨N - 1, by omega⟩
    obtain ⟨k1, k2, k3, -⟩ := hc.k
    rw [L_X7_readLine_47.eq_2, if_neg (by omega), if_pos h0, k2]
    unfold nW at hok hbad
    by_cases e11 : tK t n i = 11
    · rw [if_pos (Or.inl e11)] at hok
      rw [if_pos e11]
      have z := hok e11 S hc h0 (by omega) (by simpa using hs.2) (fun _ _ => rfl) (fun j hj => by omega) zFr.rf
      have e : w + ((0 : Nat) : Int) = w := by omega
      rw [e] at z
      exact z
    · rw [if_neg e11, zP_zb]
      by_cases f0 : fW t n i = 0
      · have q : ¬ (tK t n i = 11 ∨ fW t n i ≠ 0) := fun q => q.elim e11 (fun z => z f0)
        rw [if_neg q] at hok hbad
        have wf := fW_0 hn f0
        have i1 := tK_m hm h1 (show tK t n i ≠ 12 by omega)
        have i2 := tK_m hm (show i + 1 ≤ m by omega) (show tK t n (i + 1) ≠ 12 by omega)
        have t1 := (tP_next (t := t) (i := i) hn).1 wf.1
        have t2 : tP t n (i + 1) + 1 ≤ tP t n (i + 2) ∧ tP t n (i + 1) < n := (tP_next (t := t) (i := i + 1) hn).2.2.1 (by omega)
        have pb := tP_b (t := t) (i := i + 2) hn
        refine zP_mono (e_way0 hc h0 f0 (by omega)) (fun _ T hT => ?_)
        obtain ⟨u1, u2, u3, u4, u5⟩ := hT
        rw [zl_in (by omega)]
        have ee : i + 2 * (nW t n g (i + 2) + 1) = i + 2 + 2 * nW t n g (i + 2) := by omega
        rw [ee] at hok hbad
        refine ih (i + 2) T (w + 1) N (by omega) (by omega) (by omega) u1 u2 (by omega) (by omega) (fun a S' b1 b2 b3 b4 b5 b6 b7 => ?_) hbad
        have z := hok a S' b1 b2 (by omega) b4 (fun q hq => ?_) (fun j hj => ?_) (zFr.trans u5 b7)
        · have e : w + ((nW t n g (i + 2) + 1 : Nat) : Int) = w + 1 + (nW t n g (i + 2) : Nat) := by omega
          rw [e] at z
          exact z
        · rw [b5 q (by omega), u4, if_neg (by omega), if_neg (by omega)]
        · cases j with
          | zero =>
            refine ⟨?_, ?_⟩
            · rw [b5 _ (by omega), u4, if_neg (by omega), if_pos (by omega)]
              rfl
            · rw [b5 _ (by omega), u4, if_pos (by omega)]
          | succ j =>
            have y := b6 j (by omega)
            rw [u3] at y
            rw [show S 42 3 + 2 * ((j + 1 : Nat) : Int) = S 42 3 + 2 + 2 * (j : Int) by omega, show i + 2 * (j + 1) = i + 2 + 2 * j by omega]
            exact y
      · rw [if_pos (Or.inr f0)] at hbad
        refine zP_mono (e_way1 hc h0 f0 ⟨hs.1, fun q => by have := (tP_next (t := t) (i := i) hn).2.2.1 (by omega); omega⟩) (fun _ T hT => ?_)
        rw [zl_in (by omega)]
        obtain ⟨N, rfl⟩ : ∃ N', N = N' + 1 := ⟨N - 1, by omega⟩
        have z := hbad e11 T (w + 1) hT.1 (by rw [hT.1]; exact f0) hT.2
        rw [L_X7_readLine_47.eq_2]
        by_cases y : 1000 < w + 1
        · rw [if_pos y]
          exact z
        · rw [if_neg y, if_neg (by rw [hT.1]; exact f0)]
          exact z
theorem e_tailF {S : HS} {c0 f : Int} (hf : f ≠ 0) (h0 : S 42 5 = f) (hs : 0 ≤ S 42 3) (hc : 0 ≤ c0) : zP (zb (M_X7_put 0 S) fun _ S10 => zb (M_X7_readWay S10) fun _ S12 => L_X7_readLine_47 (fun e4 S19 => J_X7_readLine_84 c0 e4 S19) c0 zBig 1 S12) (fun _ T => T 42 5 = f) := by
  rw [zP_zb]
  refine zP_mono (e_putAny hs) (fun _ T hT => ?_)
  have tf : T 42 5 ≠ 0 := by rw [hT.1, h0]; exact hf
  rw [e_wayF tf, zb_some]
  have eb : zBig = 4294967295 + 1 := rfl
  rw [eb, L_X7_readLine_47.eq_2, if_neg (by decide), if_neg tf]
  unfold J_X7_readLine_84 J_X7_readLine_99
  by_cases g : 1000 ≤ c0
  · rw [if_pos g, e_expF tf, zb_some, zP_ret, hT.1, h0]
  · have uf : up T 43 c0 1 42 5 ≠ 0 := by rw [up_cell _ (by decide)]; exact tf
    rw [if_neg g, zg_in (by omega), zs_in, e_expF uf, zb_some, zP_ret, up_cell _ (by decide), hT.1, h0]
theorem e_endF {S : HS} {c0 w f : Int} (hf : f ≠ 0) (h0 : S 42 5 = f) (hc : 0 ≤ c0) : zP (J_X7_readLine_84 c0 w S) (fun _ T => T 42 5 = f) := by
  unfold J_X7_readLine_84 J_X7_readLine_99
  have tf : S 42 5 ≠ 0 := by rw [h0]; exact hf
  by_cases g : 1000 ≤ c0
  · rw [if_pos g, e_expF tf, zb_some, zP_ret, h0]
  · have uf : up S 43 c0 w 42 5 ≠ 0 := by rw [up_cell _ (by decide)]; exact tf
    rw [if_neg g, zg_in (by omega), zs_in, e_expF uf, zb_some, zP_ret, up_cell _ (by decide), h0]
/-- a line, from its first token -/
theorem e_line {S : HS} {i : Nat} {mx my : Int} (hn : 0 ≤ n ∧ n ≤ 1000) (hm : tP t n m = n) (hm1 : m ≤ 1000) (hi : i ≤ m) (hc : cSt t n S i) (h0 : S 42 5 = 0) (hk : tK t n i = 4 ∨ tK t n i = 5) (hs : 0 ≤ S 42 3 ∧ S 42 3 ≤ tP t n i) : zP (M_X7_readLine mx my S) (fun _ T => (yF t n mx my i ≠ 0 → T 42 5 = yF t n mx my i) ∧ (yF t n mx my i = 0 → cSt t n T (yE t n i + 1) ∧ T 42 5 = 0 ∧ T 42 3 = S 42 3 + 6 + 2 * yN t n i ∧ T 42 3 ≤ tP t n (yE t n i + 1) ∧ (∀ q : Int, q < S 42 3 → T 43 q = S 43 q) ∧ T 43 (S 42 3) = tK t n i ∧ T 43 (S 42 3 + 1) = tV t n (i + 1) ∧ T 43 (S 42 3 + 2) = tV t n (i + 2) ∧ T 43 (S 42 3 + 3) = 1 + yN t n i ∧ (∀ j : Nat, j < 1 + yN t n i → T 43 (S 42 3 + 4 + 2 * j) = tK t n (i + 3 + 2 * j) ∧ T 43 (S 42 3 + 5 + 2 * j) = tV t n (i + 4 + 2 * j)) ∧ zFr [43] cO S T)) := by
  obtain ⟨k1, k2, k3, -⟩ := hc.k
  have i1 := tK_m hm hi (show tK t n i ≠ 12 by omega)
  have p1 := (tP_next (t := t) (i := i) hn).2.1 (by omega) (by omega)
  have b1 := tP_b (t := t) (i := i + 1) hn
  unfold M_X7_readLine
  rw [k2, e_put7 (by omega), zb_some, zP_zb]
  generalize hs0 : S 42 3 = s at *
  have fU : zFr [43, 44] [(42, 3), (42, 4), (42, 5)] S (up (up S 43 s (tK t n i)) 42 3 (s + 1)) := zfr_upO (zfr_up zFr.rf (by decide)) (by decide)
  refine zP_mono (e_nx (hc.fr fU)) (fun _ A hA => ?_)
  obtain ⟨a1, a2⟩ := hA
  have a5 : A 42 5 = 0 := by rw [a2 42 5 (by decide) (by decide), up_same, if_neg (by decide), up_cell _ (by decide), h0]
  have a3 : A 42 3 = s + 1 := by rw [a2 42 3 (by decide) (by decide), up_eq]
  have a43 : ∀ q : Int, A 43 q = if q = s then tK t n i else S 43 q := fun q => by
    rw [a2.cell 43 (by decide) (by decide), up_cell _ (by decide), up_same]
  have fA : zFr [43] cO S A := zFr.trans (zfr_upO (zfr_up zFr.rf (by decide)) (by decide)) (zFr.mono (by decide) (by decide) a2)
  -- a number that is wrong: nothing more is read
  have bad : ∀ (B : HS) (f : Int), f ≠ 0 → yF t n mx my i = f → B 42 5 = f → 0 ≤ B 42 3 → zP (zb (M_X7_put 0 B) fun _ S10 => zb (M_X7_readWay S10) fun _ S12 => L_X7_readLine_47 (fun e4 S19 => J_X7_readLine_84 (B 42 3) e4 S19) (B 42 3) zBig 1 S12) (fun _ T => (yF t n mx my i ≠ 0 → T 42 5 = yF t n mx my i) ∧ (yF t n mx my i = 0 → cSt t n T (yE t n i + 1) ∧ T 42 5 = 0 ∧ T 42 3 = s + 6 + 2 * yN t n i ∧ T 42 3 ≤ tP t n (yE t n i + 1) ∧ (∀ q : Int, q < s → T 43 q = S 43 q) ∧ T 43 s = tK t n i ∧ T 43 (s + 1) = tV t n (i + 1) ∧ T 43 (s + 2) = tV t n (i + 2) ∧ T 43 (s + 3) = 1 + yN t n i ∧ (∀ j : Nat, j < 1 + yN t n i → T 43 (s + 4 + 2 * j) = tK t n (i + 3 + 2 * j) ∧ T 43 (s + 5 + 2 * j) = tV t n (i + 4 + 2 * j)) ∧ zFr [43] cO S T)) := by
    intro B f hf hl hB hB3
    refine zP_mono (e_tailF hf hB hB3 hB3) (fun _ T hT => ?_)
    exact ⟨fun _ => by rw [hT, hl], fun z => absurd (hl.symm.trans z) hf⟩
  by_cases f1 : fN t n 0 mx (i + 1) = 0
  · have k8 : tK t n (i + 1) = 8 := by
      unfold fN at f1
      have := b1
      split at f1
      · assumption
      · omega
    have i2 := tK_m hm (show i + 1 ≤ m by omega) (show tK t n (i + 1) ≠ 12 by omega)
    have p2 : tP t n (i + 1) + 1 ≤ tP t n (i + 2) ∧ tP t n (i + 1) < n := (tP_next (t := t) (i := i + 1) hn).2.2.1 (by omega)
    have b2 := tP_b (t := t) (i := i + 2) hn
    rw [zP_zb]
    refine zP_mono (e_num0 a1 a5 f1 (by omega)) (fun _ B hB => ?_)
    obtain ⟨c1, c5, c3, c43, fB⟩ := hB
    have fSB : zFr [43] cO S B := zFr.trans fA fB
    by_cases f2 : fN t n 0 my (i + 2) = 0
    · have k8' : tK t n (i + 2) = 8 := by
        unfold fN at f2
        have := b2
        split at f2
        · assumption
        · omega
      have i3 := tK_m hm (show i + 2 ≤ m by omega) (show tK t n (i + 2) ≠ 12 by omega)
      have p3 : tP t n (i + 2) + 1 ≤ tP t n (i + 3) ∧ tP t n (i + 2) < n := (tP_next (t := t) (i := i + 2) hn).2.2.1 (by omega)
      have b3 := tP_b (t := t) (i := i + 3) hn
      rw [zP_zb]
      refine zP_mono (e_num0 c1 c5 f2 (by omega)) (fun _ C hC => ?_)
      obtain ⟨d1, d5, d3, d43, fC⟩ := hC
      have d3' : C 42 3 = s + 3 := by omega
      rw [e_put7 (by omega), zb_some, zP_zb, d3']
      have fV : zFr [43, 44] [(42, 3), (42, 4), (42, 5)] C (up (up C 43 (s + 3) 0) 42 3 (s + 3 + 1)) := zfr_upO (zfr_up zFr.rf (by decide)) (by decide)
      have v1 := d1.fr fV
      have v5 : up (up C 43 (s + 3) 0) 42 3 (s + 3 + 1) 42 5 = 0 := by rw [up_same, if_neg (by decide), up_cell _ (by decide), d5]
      have v3 : up (up C 43 (s + 3) 0) 42 3 (s + 3 + 1) 42 3 = s + 3 + 1 := up_eq ..
      by_cases f3 : fW t n (i + 3) = 0
      · have wf : tK t n (i + 3) ≤ 3 ∧ 0 ≤ tK t n (i + 3) ∧ tK t n (i + 4) = 8 ∧ 0 ≤ tV t n (i + 4) ∧ tV t n (i + 4) ≤ 16 := fW_0 hn f3
        have i4 := tK_m hm (show i + 3 ≤ m by omega) (show tK t n (i + 3) ≠ 12 by omega)
        have i5 := tK_m hm (show i + 4 ≤ m by omega) (show tK t n (i + 4) ≠ 12 by have := wf.2.2.1; omega)
        have p4 : tP t n (i + 3) + 2 ≤ tP t n (i + 4) := (tP_next (t := t) (i := i + 3) hn).1 wf.1
        have p5 : tP t n (i + 4) + 1 ≤ tP t n (i + 5) ∧ tP t n (i + 4) < n := (tP_next (t := t) (i := i + 4) hn).2.2.1 (by have := wf.2.2.1; omega)
        have b5 := tP_b (t := t) (i := i + 5) hn
        refine zP_mono (e_way0 v1 v5 f3 (by rw [v3]; omega)) (fun _ D hD => ?_)
        obtain ⟨g1, g5, g3, g43, fD⟩ := hD
        rw [v3] at g3 g43
        have fSD : zFr [43] cO S D := zFr.trans fSB (zFr.trans fC (zFr.trans (zfr_upO (zfr_up zFr.rf (by decide)) (by decide)) fD))
        have ln : nW t n 1001 (i + 5) = yN t n i := rfl
        have le : i + 5 + 2 * nW t n 1001 (i + 5) = yE t n i := rfl
        have sp := nW_sp hn hm 1001 (i + 5) (by omega) (by omega)
        have D43 : ∀ q : Int, q < s + 6 → D 43 q = if q = s + 5 then tV t n (i + 4) else if q = s + 4 then tK t n (i + 3) else if q = s + 3 then 0 else if q = s + 2 then tV t n (i + 2) else if q = s + 1 then tV t n (i + 1) else if q = s then tK t n i else S 43 q := by
          intro q hq
          rw [g43, up_cell _ (by decide), up_same, d43, c43, a43, c3, a3]
          by_cases q5 : q = s + 5
          · rw [if_pos (by omega), if_pos q5]
          · rw [if_neg (by omega), if_neg q5]
            by_cases q4 : q = s + 4
            · rw [if_pos (by omega), if_pos q4]
            · rw [if_neg (by omega), if_neg q4]
              by_cases q3 : q = s + 3
              · rw [if_pos q3, if_pos q3]
              · rw [if_neg q3, if_neg q3]
                by_cases q2 : q = s + 2
                · rw [if_pos (by omega), if_pos q2]
                · rw [if_neg (by omega), if_neg q2]
        refine e_ways (c := s + 3) (k := fun e4 S19 => J_X7_readLine_84 (s + 3) e4 S19) hn hm hm1 1001 (i + 5) D 1 zBig (by omega) (by omega) (by decide) g1 g5 (by omega) (by omega) (fun e11 X x1 x5 x3 xb x43 xj fX => ?_) (fun e11 X w' x5 xf x3 => ?_)
        · rw [le] at x1 xb e11
          rw [ln] at x3 xj ⊢
          have fl : yF t n mx my i = 0 := by
            unfold yF
            rw [if_neg (fun z => z f1), if_neg (fun z => z f2), if_neg (fun z => z f3), if_pos e11]
          show zP (J_X7_readLine_84 (s + 3) (1 + (yN t n i : Int)) X) _
          unfold J_X7_readLine_84 J_X7_readLine_99
          rw [if_neg (by omega), zg_in (by omega), zs_in, zP_zb]
          have fY : zFr [43, 44] [(42, 3), (42, 4), (42, 5)] X (up X 43 (s + 3) (1 + yN t n i)) := zfr_up zFr.rf (by decide)
          refine zP_mono (e_exp0 (x1.fr fY) (by rw [up_cell _ (by decide)]; exact x5) e11) (fun _ T hT => ?_)
          obtain ⟨t1, fT⟩ := hT
          rw [zP_ret]
          have T43 : ∀ q : Int, T 43 q = if q = s + 3 then 1 + (yN t n i : Int) else X 43 q := fun q => by
            rw [fT.cell 43 (by decide) (by decide), up_same]
          have T3 : T 42 3 = X 42 3 := by rw [fT 42 3 (by decide) (by decide), up_cell _ (by decide)]
          have be := (tP_next (t := t) (i := yE t n i) hn).2.2.1 (by omega)
          refine ⟨fun z => absurd fl z, fun _ => ⟨t1, ?_, by omega, by omega, fun q hq => ?_, ?_, ?_, ?_, ?_, fun j hj => ?_, zFr.trans (zFr.trans fSD fX) (zFr.trans (zfr_up zFr.rf (by decide)) (zFr.mono (by decide) (by decide) fT))⟩⟩
          · rw [fT 42 5 (by decide) (by decide), up_cell _ (by decide)]
            exact x5
          · rw [T43, if_neg (by omega), x43 q (by omega), D43 q (by omega), if_neg (by omega), if_neg (by omega), if_neg (by omega), if_neg (by omega), if_neg (by omega), if_neg (by omega)]
          · rw [T43, if_neg (by omega), x43 _ (by omega), D43 _ (by omega), if_neg (by omega), if_neg (by omega), if_neg (by omega), if_neg (by omega), if_neg (by omega), if_pos rfl]
          · rw [T43, if_neg (by omega), x43 _ (by omega), D43 _ (by omega), if_neg (by omega), if_neg (by omega), if_neg (by omega), if_neg (by omega), if_pos rfl]
          · rw [T43, if_neg (by omega), x43 _ (by omega), D43 _ (by omega), if_neg (by omega), if_neg (by omega), if_neg (by omega), if_pos rfl]
          · rw [T43, if_pos rfl]
          · rw [T43, if_neg (by omega), T43, if_neg (by omega)]
            cases j with
            | zero =>
              rw [x43 _ (by omega), x43 _ (by omega), D43 _ (by omega), D43 _ (by omega), if_neg (by omega), if_pos (by omega), if_pos (by omega)]
              exact ⟨rfl, rfl⟩
            | succ j =>
              have y := xj j (by omega)
              rw [g3] at y
              rw [show s + 4 + 2 * ((j + 1 : Nat) : Int) = s + 3 + 1 + 2 + 2 * (j : Int) by omega, show s + 5 + 2 * ((j + 1 : Nat) : Int) = s + 3 + 1 + 2 + 2 * (j : Int) + 1 by omega, show i + 3 + 2 * (j + 1) = i + 5 + 2 * j by omega, show i + 4 + 2 * (j + 1) = i + 5 + 2 * j + 1 by omega]
              exact y
        · rw [le] at x5 e11
          have fl : yF t n mx my i = fW t n (yE t n i) := by
            unfold yF
            rw [if_neg (fun z => z f1), if_neg (fun z => z f2), if_neg (fun z => z f3), if_neg e11]
          have ne : yF t n mx my i ≠ 0 := by
            rw [fl, ← x5]
            exact xf
          refine zP_mono (e_endF ne (x5.trans fl.symm) (by omega)) (fun _ T hT => ?_)
          exact ⟨fun _ => hT, fun z => absurd z ne⟩
      · have fl : yF t n mx my i = fW t n (i + 3) := by
          unfold yF
          rw [if_neg (fun z => z f1), if_neg (fun z => z f2), if_pos f3]
        have ne : yF t n mx my i ≠ 0 := by
          rw [fl]
          exact f3
        refine zP_mono (e_way1 v1 v5 f3 (by rw [v3]; exact ⟨by omega, fun q => by have q' : tK t n (i + 3) ≤ 3 := q; have := (tP_next (t := t) (i := i + 3) hn).2.2.1 (by omega); omega⟩)) (fun _ D hD => ?_)
        have df : D 42 5 ≠ 0 := by rw [hD.1]; exact f3
        have eb : zBig = 4294967295 + 1 := rfl
        rw [eb, L_X7_readLine_47.eq_2, if_neg (by decide), if_neg df]
        refine zP_mono (e_endF ne (hD.1.trans fl.symm) (by omega)) (fun _ T hT => ?_)
        exact ⟨fun _ => hT, fun z => absurd z ne⟩
    · rw [e_num1 c1 c5 f2, zb_some]
      have fl : yF t n mx my i = fN t n 0 my (i + 2) := by
        unfold yF
        rw [if_neg (fun z => z f1), if_pos f2]
      refine bad _ _ f2 fl (up_eq ..) ?_
      rw [up_same, if_neg (by decide)]
      omega
  · rw [e_num1 a1 a5 f1, zb_some, e_numF (by rw [up_eq]; exact f1), zb_some]
    have fl : yF t n mx my i = fN t n 0 mx (i + 1) := by
      unfold yF
      rw [if_pos f1]
    refine bad _ _ f1 fl (up_eq ..) ?_
    rw [up_same, if_neg (by decide)]
    omega
end LI
