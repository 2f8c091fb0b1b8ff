/-! a line: the reference, to its end -/
section MM
variable {t : Int → Int} {n : Int} {m : Nat}
theorem m_loopF {k : HS → zO2} {p4 : Int} {N : Nat} {T : HS} (h0 : T 51 8 ≠ 0) : L_X12_readLine_86 k p4 (N + 1) T = k T := by
  rw [L_X12_readLine_86.eq_2, m_wayWF h0, zb_some, if_pos (by decide)]
theorem m_tailF {T : HS} {v2 v3 t0 : Int} (h0 : 0 < T 51 8) (hx : 0 ≤ T 51 10 ∧ T 51 10 ≤ 1001) : zP (J_X12_readLine_60 v2 v3 t0 T) (fun _ U => U 51 8 = T 51 8) := by
  unfold J_X12_readLine_60
  rw [zP_zb]
  refine zP_mono (m_emit (by omega)) (fun r A hA => ?_)
  obtain ⟨rfl, a1, -, fA⟩ := hA
  have a8 : A 51 8 = T 51 8 := fA 51 8 (by decide) (by decide)
  rw [m_wayRF (by omega), zb_some, zP_zb]
  refine zP_mono (m_emit (by omega)) (fun r B hB => ?_)
  obtain ⟨-, b1, -, fB⟩ := hB
  have b8 : B 51 8 = T 51 8 := (fB 51 8 (by decide) (by decide)).trans a8
  have eb : zBig = 4294967295 + 1 := rfl
  rw [eb, m_loopF (by omega), m_takeSignF (by omega), zb_some, zg_in (by omega), zs_in, zP_ret, up_cell _ (by decide)]
  exact b8
theorem m_ways {k : HS → zO2} {p4 : Int} {Q : Int → HS → Prop} (hn : 0 ≤ n ∧ n ≤ 1000) (hm : tP t n m = n) (hm1 : m ≤ 1000) : ∀ (g i : Nat) (T : HS) (N : Nat), i ≤ m → m + 1 ≤ i + g → g + 1 < N → mSt t n m T i → T 51 8 = 0 → (0 ≤ T 51 10 ∧ T 51 10 ≤ tP t n i) → (tK t n (i + 2 * nW t n g i) = 11 → ∀ U : HS, mSt t n m U (i + 2 * nW t n g i) → U 51 8 = 0 → U 51 10 = T 51 10 + nW t n g i → U 51 10 ≤ tP t n (i + 2 * nW t n g i) → (∀ q : Int, q < T 51 10 → U 57 q = T 57 q ∧ U 58 q = T 58 q ∧ U 59 q = T 59 q ∧ U 60 q = T 60 q) → (∀ j : Nat, j < nW t n g i → U 57 (T 51 10 + j) = 4 ∧ U 58 (T 51 10 + j) = gAcr (tK t n (i + 2 * j)) * tV t n (i + 2 * j + 1) ∧ U 59 (T 51 10 + j) = gDwn (tK t n (i + 2 * j)) * tV t n (i + 2 * j + 1)) → zP (k U) Q) → (tK t n (i + 2 * nW t n g i) ≠ 11 → ∀ U : HS, (U 51 8 = fW t n (i + 2 * nW t n g i) ∧ U 51 8 ≠ 0 ∨ mSt t n m U (i + 2 * nW t n g i) ∧ U 51 8 = 0 ∧ 3 < tK t n (i + 2 * nW t n g i)) → zP (k U) Q) → zP (L_X12_readLine_86 k p4 N T) Q := by
  intro g
  induction g with
  | zero =>
    intro i T N h1 h2
    omega
  | succ g ih =>
    intro i T N h1 h2 hN h h0 hx hok hbad
    obtain ⟨N, rfl⟩ : ∃ N', N = N' + 1 := ⟨N - 1, by omega⟩
    have kr : 0 ≤ tK t n i := (kKi_r (t := t) (n := n) (p := tP t n i)).1
    have pb := tP_b (t := t) (i := i) hn
    rw [L_X12_readLine_86.eq_2, m_wayW h hm1 h0, zb_some]
    unfold nW at hok hbad
    by_cases e11 : tK t n i = 11
    · rw [if_pos (Or.inl e11)] at hok
      rw [if_neg (show ¬ tK t n i ≤ 3 by omega), if_pos (by decide)]
      exact hok e11 T h h0 (by omega) (by simpa using hx.2) (fun _ _ => ⟨rfl, rfl, rfl, rfl⟩) (fun j hj => by omega)
    · by_cases f0 : fW t n i = 0
      · have q : ¬ (tK t n i = 11 ∨ fW t n i ≠ 0) := fun q => q.elim e11 (fun z => z f0)
        rw [if_neg q] at hok hbad
        have wf := fW_0 hn f0
        have i1 := tK_m hm h1 (show tK t n i ≠ 12 by omega)
        have i2 := tK_m hm (show i + 1 ≤ m by omega) (show tK t n (i + 1) ≠ 12 by omega)
        have t1 := (tP_next (t := t) (i := i) hn).1 wf.1
        have t2 : tP t n (i + 1) + 1 ≤ tP t n (i + 2) ∧ tP t n (i + 1) < n := (tP_next (t := t) (i := i + 1) hn).2.2.1 (by omega)
        have pb := tP_b (t := t) (i := i + 2) hn
        rw [if_pos wf.1, if_neg (by omega), zP_zb]
        refine zP_mono (m_way h hm hm1 hn h0) (fun _ A hA => ?_)
        obtain ⟨-, hA, fA⟩ := hA
        obtain ⟨a1, a2, a3, a4⟩ := hA f0
        have a10 : A 51 10 = T 51 10 := fA 51 10 (by decide) (by decide)
        rw [zP_zb]
        refine zP_mono (m_emit (by omega)) (fun _ B hB => ?_)
        obtain ⟨-, b1, b2, fB⟩ := hB
        have ee : i + 2 * (nW t n g (i + 2) + 1) = i + 2 + 2 * nW t n g (i + 2) := by omega
        rw [ee] at hok hbad
        have b8 : B 51 8 = 0 := (fB 51 8 (by decide) (by decide)).trans a2
        rw [a10] at b1 b2
        have cA : ∀ k : Nat, k ≠ 51 → A k = T k := fun k hk => fA.cell k (by simp) (by simp; omega)
        refine ih (i + 2) B N (by omega) (by omega) (by omega) (a1.fr (zFr.mono (by decide) (by decide) fB)) b8 (by omega) (fun a U u1 u2 u3 u4 u5 u6 => ?_) hbad
        refine hok a U u1 u2 (by omega) u4 (fun q hq => ?_) (fun j hj => ?_)
        · obtain ⟨x1, x2, x3, x4⟩ := u5 q (by omega)
          obtain ⟨y1, y2, y3, y4⟩ := b2 q
          rw [if_neg (by omega), cA _ (by decide)] at y1 y2 y3 y4
          exact ⟨x1.trans y1, x2.trans y2, x3.trans y3, x4.trans y4⟩
        · cases j with
          | zero =>
            obtain ⟨x1, x2, x3, x4⟩ := u5 (T 51 10 + ((0 : Nat) : Int)) (by omega)
            obtain ⟨y1, y2, y3, y4⟩ := b2 (T 51 10 + ((0 : Nat) : Int))
            rw [if_pos (by omega)] at y1 y2 y3
            exact ⟨x1.trans y1, (x2.trans y2).trans a3, (x3.trans y3).trans a4⟩
          | succ j =>
            have y := u6 j (by omega)
            rw [b1] at y
            rw [show T 51 10 + ((j + 1 : Nat) : Int) = T 51 10 + 1 + (j : Int) by omega, show i + 2 * (j + 1) = i + 2 + 2 * j by omega]
            exact y
      · rw [if_pos (Or.inr f0)] at hbad
        by_cases g3 : tK t n i ≤ 3
        · have i1 := tK_m hm h1 (show tK t n i ≠ 12 by omega)
          have pl := (tP_next (t := t) (i := i) hn).2.2.1 (by omega)
          rw [if_pos g3, if_neg (by omega), zP_zb]
          refine zP_mono (m_way h hm hm1 hn h0) (fun _ A hA => ?_)
          obtain ⟨hA, -, fA⟩ := hA
          have a8 := hA f0
          have a10 : A 51 10 = T 51 10 := fA 51 10 (by decide) (by decide)
          rw [zP_zb]
          refine zP_mono (m_emit (by omega)) (fun _ B hB => ?_)
          obtain ⟨-, b1, b2, fB⟩ := hB
          have b8 : B 51 8 = fW t n i := (fB 51 8 (by decide) (by decide)).trans a8
          obtain ⟨N, rfl⟩ : ∃ N', N = N' + 1 := ⟨N - 1, by omega⟩
          rw [m_loopF (by rw [b8]; exact f0)]
          exact hbad e11 B (Or.inl ⟨b8, by rw [b8]; exact f0⟩)
        · rw [if_neg g3, if_pos (by decide)]
          exact hbad e11 T (Or.inr ⟨h, h0, by show 3 < tK t n i; omega⟩)
/-- a line, from its first token -/
theorem m_line60 {T : HS} {i : Nat} {x v2 v3 t0 F : Int} (hn : 0 ≤ n ∧ n ≤ 1000) (hm : tP t n m = n) (hm1 : m ≤ 1000) (h : mSt t n m T (i + 3)) (h0 : T 51 8 = 0) (hx : T 51 10 = x) (hx0 : 0 ≤ x ∧ x + 4 ≤ tP t n (i + 3)) (hF : F = if fW t n (i + 3) ≠ 0 then fW t n (i + 3) else if tK t n (yE t n i) = 11 then 0 else fW t n (yE t n i)) : zP (J_X12_readLine_60 v2 v3 t0 T) (fun _ U => (F ≠ 0 → U 51 8 = F) ∧ (F = 0 → mSt t n m U (yE t n i + 1) ∧ U 51 8 = 0 ∧ U 51 10 = x + 2 + yN t n i ∧ U 51 10 ≤ tP t n (yE t n i + 1) ∧ (∀ q : Int, q < x → U 57 q = T 57 q ∧ U 58 q = T 58 q ∧ U 59 q = T 59 q ∧ U 60 q = T 60 q) ∧ (U 57 x = t0 ∧ U 58 x = v2 ∧ U 59 x = v3 ∧ U 60 x = x + 2 + yN t n i) ∧ ∀ j : Nat, j < 1 + yN t n i → U 57 (x + 1 + j) = 4 ∧ U 58 (x + 1 + j) = gAcr (tK t n (i + 3 + 2 * j)) * tV t n (i + 4 + 2 * j) ∧ U 59 (x + 1 + j) = gDwn (tK t n (i + 3 + 2 * j)) * tV t n (i + 4 + 2 * j))) := by
  have b3 := tP_b (t := t) (i := i + 3) hn
  unfold J_X12_readLine_60
  rw [zP_zb]
  refine zP_mono (m_emit (by omega)) (fun r A hA => ?_)
  obtain ⟨rfl, a1, a2, fA⟩ := hA
  rw [hx] at a1 a2 ⊢
  have a8 : A 51 8 = 0 := (fA 51 8 (by decide) (by decide)).trans h0
  have hA := h.fr (zFr.mono (by decide) (by decide) fA)
  rw [zP_zb]
  refine zP_mono (m_way hA hm hm1 hn a8) (fun _ B hB => ?_)
  obtain ⟨bF, bO, fB⟩ := hB
  have b10 : B 51 10 = x + 1 := (fB 51 10 (by decide) (by decide)).trans a1
  have cB : ∀ k : Nat, k ≠ 51 → B k = A k := fun k hk => fB.cell k (by simp) (by simp; omega)
  rw [zP_zb]
  refine zP_mono (m_emit (by omega)) (fun r C hC => ?_)
  obtain ⟨-, c1, c2, fC⟩ := hC
  rw [b10] at c1 c2
  have eb : zBig = 4294967295 + 1 := rfl
  have le : i + 5 + 2 * nW t n 1001 (i + 5) = yE t n i := rfl
  have ln : nW t n 1001 (i + 5) = yN t n i := rfl
  have c10 : C 51 10 = x + 2 := by omega
  by_cases f3 : fW t n (i + 3) = 0
  · obtain ⟨d1, d2, d3, d4⟩ := bO f3
    rw [if_neg (fun z => z f3)] at hF
    have wf : tK t n (i + 3) ≤ 3 ∧ 0 ≤ tK t n (i + 3) ∧ tK t n (i + 4) = 8 ∧ 0 ≤ tV t n (i + 4) ∧ tV t n (i + 4) ≤ 16 := fW_0 hn f3
    have i5 : i + 5 ≤ m := d1.2.2.2
    have p4 : tP t n (i + 3) + 2 ≤ tP t n (i + 4) := (tP_next (t := t) (i := i + 3) hn).1 wf.1
    have p5 : tP t n (i + 4) + 1 ≤ tP t n (i + 5) ∧ tP t n (i + 4) < n := (tP_next (t := t) (i := i + 4) hn).2.2.1 (by have := wf.2.2.1; omega)
    have c8 : C 51 8 = 0 := (fC 51 8 (by decide) (by decide)).trans d2
    have hC := d1.fr (zFr.mono (by decide) (by decide) fC)
    have low : ∀ q : Int, q < x → C 57 q = T 57 q ∧ C 58 q = T 58 q ∧ C 59 q = T 59 q ∧ C 60 q = T 60 q := by
      intro q hq
      obtain ⟨y1, y2, y3, y4⟩ := c2 q
      obtain ⟨z1, z2, z3, z4⟩ := a2 q
      rw [if_neg (by omega), cB _ (by decide)] at y1 y2 y3 y4
      rw [if_neg (by omega)] at z1 z2 z3 z4
      exact ⟨y1.trans z1, y2.trans z2, y3.trans z3, y4.trans z4⟩
    have atx : C 57 x = t0 ∧ C 58 x = v2 ∧ C 59 x = v3 := by
      obtain ⟨y1, y2, y3, y4⟩ := c2 x
      obtain ⟨z1, z2, z3, z4⟩ := a2 x
      rw [if_neg (by omega), cB _ (by decide)] at y1 y2 y3
      rw [if_pos rfl] at z1 z2 z3
      exact ⟨y1.trans z1, y2.trans z2, y3.trans z3⟩
    have at1 : C 57 (x + 1) = 4 ∧ C 58 (x + 1) = gAcr (tK t n (i + 3)) * tV t n (i + 4) ∧ C 59 (x + 1) = gDwn (tK t n (i + 3)) * tV t n (i + 4) := by
      obtain ⟨y1, y2, y3, y4⟩ := c2 (x + 1)
      rw [if_pos rfl] at y1 y2 y3
      exact ⟨y1, y2.trans d3, y3.trans d4⟩
    refine m_ways hn hm hm1 1001 (i + 5) C zBig (by omega) (by omega) (by decide) hC c8 (by omega) (fun e11 U u1 u2 u3 u4 u5 u6 => ?_) (fun e11 U hU => ?_)
    · rw [le] at u1 u4 e11
      rw [ln] at u3 u6
      rw [c10] at u3 u5 u6
      rw [if_pos e11] at hF
      have ie : yE t n i < m := tK_m hm u1.2.2.2 (by omega)
      have be := (tP_next (t := t) (i := yE t n i) hn).2.2.1 (by omega)
      have ob := tP_b (t := t) (i := yE t n i) hn
      rw [(m_sign u1 hm1 hn u2).2.2, zb_some, if_pos e11, zg_in (by omega), zs_in, zP_ret]
      have v10 : up U 51 7 ((yE t n i + 1 : Nat) : Int) 51 10 = U 51 10 := by rw [up_same, if_neg (by decide)]
      rw [v10]
      have cU : ∀ k : Nat, k ≠ 51 → k ≠ 60 → ∀ q : Int, up (up U 51 7 ((yE t n i + 1 : Nat) : Int)) 60 x (U 51 10) k q = U k q := fun k h1 h2 q => by
        rw [up_cell _ h2, up_cell _ h1]
      have c60 : ∀ q : Int, up (up U 51 7 ((yE t n i + 1 : Nat) : Int)) 60 x (U 51 10) 60 q = if q = x then U 51 10 else U 60 q := fun q => by
        rw [up_same, up_cell _ (by decide)]
      refine ⟨fun z => absurd hF z, fun _ => ⟨(u1.at (j := yE t n i + 1) (by omega)).fr (zfr_up zFr.rf (by decide)), ?_, ?_, ?_, fun q hq => ?_, ⟨?_, ?_, ?_, ?_⟩, fun j hj => ?_⟩⟩
      · rw [up_cell _ (by decide), up_same, if_neg (by decide)]
        exact u2
      · rw [up_cell _ (by decide), v10]
        exact u3
      · rw [up_cell _ (by decide), v10]
        omega
      · obtain ⟨y1, y2, y3, y4⟩ := u5 q (by omega)
        obtain ⟨z1, z2, z3, z4⟩ := low q hq
        rw [cU 57 (by decide) (by decide), cU 58 (by decide) (by decide), cU 59 (by decide) (by decide), c60, if_neg (by omega)]
        exact ⟨y1.trans z1, y2.trans z2, y3.trans z3, y4.trans z4⟩
      · rw [cU 57 (by decide) (by decide), (u5 x (by omega)).1]
        exact atx.1
      · rw [cU 58 (by decide) (by decide), (u5 x (by omega)).2.1]
        exact atx.2.1
      · rw [cU 59 (by decide) (by decide), (u5 x (by omega)).2.2.1]
        exact atx.2.2
      · rw [c60, if_pos rfl]
        exact u3
      · rw [cU 57 (by decide) (by decide), cU 58 (by decide) (by decide), cU 59 (by decide) (by decide)]
        cases j with
        | zero =>
          have e : x + 1 + ((0 : Nat) : Int) = x + 1 := by omega
          rw [e]
          obtain ⟨y1, y2, y3, y4⟩ := u5 (x + 1) (by omega)
          exact ⟨y1.trans at1.1, y2.trans at1.2.1, y3.trans at1.2.2⟩
        | succ j =>
          have y := u6 j (by omega)
          rw [show x + 1 + ((j + 1 : Nat) : Int) = x + 2 + (j : Int) by omega, show i + 3 + 2 * (j + 1) = i + 5 + 2 * j by omega, show i + 4 + 2 * (j + 1) = i + 5 + 2 * j + 1 by omega]
          exact y
    · rw [le] at hU e11
      rw [if_neg e11] at hF
      rcases hU with ⟨u1, u2⟩ | ⟨u1, u2, u3⟩
      · rw [m_takeSignF u2, zb_some, zg_in (by omega), zs_in, zP_ret, up_cell _ (by decide)]
        exact ⟨fun _ => u1.trans hF.symm, fun z => absurd (u1.trans (hF.symm.trans z)) u2⟩
      · have f1 : fW t n (yE t n i) = 1 + 16 * tP t n (yE t n i) := by
          unfold fW
          rw [if_pos u3]
        have ob := tP_b (t := t) (i := yE t n i) hn
        rw [(m_sign u1 hm1 hn u2).2.2, zb_some, if_neg e11, zg_in (by omega), zs_in, zP_ret, up_cell _ (by decide), up_eq]
        exact ⟨fun _ => (hF.trans f1).symm, fun z => by omega⟩
  · rw [if_pos f3] at hF
    have b8 := bF f3
    have c8 : C 51 8 = fW t n (i + 3) := (fC 51 8 (by decide) (by decide)).trans b8
    have cf : C 51 8 ≠ 0 := by rw [c8]; exact f3
    rw [eb, m_loopF cf, m_takeSignF cf, zb_some, zg_in (by omega), zs_in, zP_ret, up_cell _ (by decide)]
    exact ⟨fun _ => c8.trans hF.symm, fun z => absurd (hF.symm.trans z) f3⟩
theorem fN_r {lo hi : Int} {i : Nat} (hn : 0 ≤ n ∧ n ≤ 1000) : 0 ≤ fN t n lo hi i ∧ (fN t n lo hi i = 0 → tK t n i = 8) := by
  have pb := tP_b (t := t) (i := i) hn
  unfold fN
  split
  · split
    · exact ⟨by omega, fun _ => by assumption⟩
    · exact ⟨by omega, fun _ => by assumption⟩
  · exact ⟨by omega, fun z => by omega⟩
theorem m_line {T : HS} {i : Nat} {x mx my K : Int} (hn : 0 ≤ n ∧ n ≤ 1000) (hm : tP t n m = n) (hm1 : m ≤ 1000) (h : mSt t n m T i) (h0 : T 51 8 = 0) (hk : tK t n i = 4 ∧ mx = 16 ∧ my = 12 ∧ K = 0 ∨ tK t n i = 5 ∧ mx = 15 ∧ my = 11 ∧ K = 1) (hx : T 51 10 = x) (hx0 : 0 ≤ x ∧ x ≤ tP t n i) : zP (M_X12_readLine T) (fun _ U => (yF t n mx my i ≠ 0 → U 51 8 = yF t n mx my i) ∧ (yF t n mx my i = 0 → mSt t n m U (yE t n i + 1) ∧ U 51 8 = 0 ∧ U 51 10 = x + 2 + yN t n i ∧ U 51 10 ≤ tP t n (yE t n i + 1) ∧ (∀ q : Int, q < x → U 57 q = T 57 q ∧ U 58 q = T 58 q ∧ U 59 q = T 59 q ∧ U 60 q = T 60 q) ∧ (U 57 x = K ∧ U 58 x = tV t n (i + 1) ∧ U 59 x = tV t n (i + 2) ∧ U 60 x = x + 2 + yN t n i) ∧ ∀ j : Nat, j < 1 + yN t n i → U 57 (x + 1 + j) = 4 ∧ U 58 (x + 1 + j) = gAcr (tK t n (i + 3 + 2 * j)) * tV t n (i + 4 + 2 * j) ∧ U 59 (x + 1 + j) = gDwn (tK t n (i + 3 + 2 * j)) * tV t n (i + 4 + 2 * j))) := by
  obtain ⟨k1, k2, k3, k4, k5⟩ := h.k hm1
  have i1 := tK_m hm k2 (show tK t n i ≠ 12 by omega)
  have p1 := (tP_next (t := t) (i := i) hn).2.1 (by omega) (by omega)
  have b1 := tP_b (t := t) (i := i + 1) hn
  have st := h.at (j := i + 1) i1
  have ej : ((i + 1 : Nat) : Int) = (i : Int) + 1 := rfl
  have A8 : up T 51 7 ((i + 1 : Nat) : Int) 51 8 = 0 := by rw [up_same, if_neg (by decide)]; exact h0
  -- the second number, and what follows
  have two : ∀ r1 : Int, (r1 = 0 → K = 1) → (r1 ≠ 0 → K = 0) → fN t n 0 mx (i + 1) = 0 → zP (J_X12_readLine_46 r1 (tV t n (i + 1)) my 0 (up (up T 51 7 ((i + 1 : Nat) : Int)) 51 7 ((i + 1 + 1 : Nat) : Int))) (fun _ U => (yF t n mx my i ≠ 0 → U 51 8 = yF t n mx my i) ∧ (yF t n mx my i = 0 → mSt t n m U (yE t n i + 1) ∧ U 51 8 = 0 ∧ U 51 10 = x + 2 + yN t n i ∧ U 51 10 ≤ tP t n (yE t n i + 1) ∧ (∀ q : Int, q < x → U 57 q = T 57 q ∧ U 58 q = T 58 q ∧ U 59 q = T 59 q ∧ U 60 q = T 60 q) ∧ (U 57 x = K ∧ U 58 x = tV t n (i + 1) ∧ U 59 x = tV t n (i + 2) ∧ U 60 x = x + 2 + yN t n i) ∧ ∀ j : Nat, j < 1 + yN t n i → U 57 (x + 1 + j) = 4 ∧ U 58 (x + 1 + j) = gAcr (tK t n (i + 3 + 2 * j)) * tV t n (i + 4 + 2 * j) ∧ U 59 (x + 1 + j) = gDwn (tK t n (i + 3 + 2 * j)) * tV t n (i + 4 + 2 * j))) := by
    intro r1 hr0 hr1 f1
    have k8 := (fN_r hn).2 f1
    have i2 := tK_m hm (show i + 1 ≤ m by omega) (show tK t n (i + 1) ≠ 12 by omega)
    have p2 : tP t n (i + 1) + 1 ≤ tP t n (i + 2) ∧ tP t n (i + 1) < n := (tP_next (t := t) (i := i + 1) hn).2.2.1 (by omega)
    have b2 := tP_b (t := t) (i := i + 2) hn
    have st2 := st.at (j := i + 1 + 1) i2
    have B8 : up (up T 51 7 ((i + 1 : Nat) : Int)) 51 7 ((i + 1 + 1 : Nat) : Int) 51 8 = 0 := by rw [up_same, if_neg (by decide)]; exact A8
    unfold J_X12_readLine_46
    rw [m_num st2 hm1 hn B8]
    have yf : yF t n mx my i = if fN t n 0 my (i + 2) ≠ 0 then fN t n 0 my (i + 2) else if fW t n (i + 3) ≠ 0 then fW t n (i + 3) else if tK t n (yE t n i) = 11 then 0 else fW t n (yE t n i) := by
      unfold yF
      rw [if_neg (fun z => z f1)]
    have f12 := (fN_r (t := t) (lo := 0) (hi := my) (i := i + 2) hn)
    by_cases f2 : fN t n 0 my (i + 2) = 0
    · have f2' : fN t n 0 my (i + 1 + 1) = 0 := f2
      rw [if_pos f2', zb_some]
      have k8' := f12.2 f2
      have i3 := tK_m hm (show i + 2 ≤ m by omega) (show tK t n (i + 2) ≠ 12 by omega)
      have p3 : tP t n (i + 2) + 1 ≤ tP t n (i + 3) ∧ tP t n (i + 2) < n := (tP_next (t := t) (i := i + 2) hn).2.2.1 (by omega)
      have st3 : mSt t n m (up (up (up T 51 7 ((i + 1 : Nat) : Int)) 51 7 ((i + 1 + 1 : Nat) : Int)) 51 7 ((i + 1 + 1 + 1 : Nat) : Int)) (i + 3) := st2.at (j := i + 1 + 1 + 1) i3
      rw [if_neg (fun z => z f2)] at yf
      have C8 : up (up (up T 51 7 ((i + 1 : Nat) : Int)) 51 7 ((i + 1 + 1 : Nat) : Int)) 51 7 ((i + 1 + 1 + 1 : Nat) : Int) 51 8 = 0 := by rw [up_same, if_neg (by decide)]; exact B8
      have C10 : up (up (up T 51 7 ((i + 1 : Nat) : Int)) 51 7 ((i + 1 + 1 : Nat) : Int)) 51 7 ((i + 1 + 1 + 1 : Nat) : Int) 51 10 = x := by rw [up_same, if_neg (by decide), up_same, if_neg (by decide), up_same, if_neg (by decide)]; exact hx
      have go : ∀ t0 : Int, t0 = K → zP (J_X12_readLine_60 (tV t n (i + 1)) (tV t n (i + 1 + 1)) t0 (up (up (up T 51 7 ((i + 1 : Nat) : Int)) 51 7 ((i + 1 + 1 : Nat) : Int)) 51 7 ((i + 1 + 1 + 1 : Nat) : Int))) (fun _ U => (yF t n mx my i ≠ 0 → U 51 8 = yF t n mx my i) ∧ (yF t n mx my i = 0 → mSt t n m U (yE t n i + 1) ∧ U 51 8 = 0 ∧ U 51 10 = x + 2 + yN t n i ∧ U 51 10 ≤ tP t n (yE t n i + 1) ∧ (∀ q : Int, q < x → U 57 q = T 57 q ∧ U 58 q = T 58 q ∧ U 59 q = T 59 q ∧ U 60 q = T 60 q) ∧ (U 57 x = K ∧ U 58 x = tV t n (i + 1) ∧ U 59 x = tV t n (i + 2) ∧ U 60 x = x + 2 + yN t n i) ∧ ∀ j : Nat, j < 1 + yN t n i → U 57 (x + 1 + j) = 4 ∧ U 58 (x + 1 + j) = gAcr (tK t n (i + 3 + 2 * j)) * tV t n (i + 4 + 2 * j) ∧ U 59 (x + 1 + j) = gDwn (tK t n (i + 3 + 2 * j)) * tV t n (i + 4 + 2 * j))) := by
        intro t0 ht
        subst ht
        exact m_line60 hn hm hm1 st3 C8 C10 (by omega) yf
      by_cases q : r1 = 0
      · rw [if_pos q]
        exact go 1 (hr0 q).symm
      · rw [if_neg q]
        exact go 0 (hr1 q).symm
    · have f2' : ¬ fN t n 0 my (i + 1 + 1) = 0 := f2
      rw [if_neg f2', zb_some]
      rw [if_pos f2] at yf
      have go : ∀ t0 : Int, zP (J_X12_readLine_60 (tV t n (i + 1)) 0 t0 (up (up (up T 51 7 ((i + 1 : Nat) : Int)) 51 7 ((i + 1 + 1 : Nat) : Int)) 51 8 (fN t n 0 my (i + 1 + 1)))) (fun _ U => (yF t n mx my i ≠ 0 → U 51 8 = yF t n mx my i) ∧ (yF t n mx my i = 0 → mSt t n m U (yE t n i + 1) ∧ U 51 8 = 0 ∧ U 51 10 = x + 2 + yN t n i ∧ U 51 10 ≤ tP t n (yE t n i + 1) ∧ (∀ q : Int, q < x → U 57 q = T 57 q ∧ U 58 q = T 58 q ∧ U 59 q = T 59 q ∧ U 60 q = T 60 q) ∧ (U 57 x = K ∧ U 58 x = tV t n (i + 1) ∧ U 59 x = tV t n (i + 2) ∧ U 60 x = x + 2 + yN t n i) ∧ ∀ j : Nat, j < 1 + yN t n i → U 57 (x + 1 + j) = 4 ∧ U 58 (x + 1 + j) = gAcr (tK t n (i + 3 + 2 * j)) * tV t n (i + 4 + 2 * j) ∧ U 59 (x + 1 + j) = gDwn (tK t n (i + 3 + 2 * j)) * tV t n (i + 4 + 2 * j))) := by
        intro t0
        refine zP_mono (m_tailF ?_ ?_) (fun _ U hU => ?_)
        · rw [up_eq]
          have z := f12.1
          show 0 < fN t n 0 my (i + 2)
          omega
        · rw [up_same, if_neg (by decide), up_same, if_neg (by decide), up_same, if_neg (by decide), hx]
          omega
        · rw [up_eq] at hU
          refine ⟨fun _ => hU.trans yf.symm, fun z => absurd (yf.symm.trans z) f2⟩
      by_cases q : r1 = 0
      · rw [if_pos q]
        exact go 1
      · rw [if_neg q]
        exact go 0
  unfold M_X12_readLine
  rw [(m_word h hm1 h0).1, zb_some, k1, zl_in (by omega), zs_in, ← ej]
  have one : ∀ r1 : Int, (r1 = 0 → K = 1 ∧ mx = 15 ∧ my = 11) → (r1 ≠ 0 → K = 0 ∧ mx = 16 ∧ my = 12) → zP (J_X12_readLine_29 r1 mx 0 (up T 51 7 ((i + 1 : Nat) : Int))) (fun _ U => (yF t n mx my i ≠ 0 → U 51 8 = yF t n mx my i) ∧ (yF t n mx my i = 0 → mSt t n m U (yE t n i + 1) ∧ U 51 8 = 0 ∧ U 51 10 = x + 2 + yN t n i ∧ U 51 10 ≤ tP t n (yE t n i + 1) ∧ (∀ q : Int, q < x → U 57 q = T 57 q ∧ U 58 q = T 58 q ∧ U 59 q = T 59 q ∧ U 60 q = T 60 q) ∧ (U 57 x = K ∧ U 58 x = tV t n (i + 1) ∧ U 59 x = tV t n (i + 2) ∧ U 60 x = x + 2 + yN t n i) ∧ ∀ j : Nat, j < 1 + yN t n i → U 57 (x + 1 + j) = 4 ∧ U 58 (x + 1 + j) = gAcr (tK t n (i + 3 + 2 * j)) * tV t n (i + 4 + 2 * j) ∧ U 59 (x + 1 + j) = gDwn (tK t n (i + 3 + 2 * j)) * tV t n (i + 4 + 2 * j))) := by
    intro r1 hr0 hr1
    have f11 := (fN_r (t := t) (lo := 0) (hi := mx) (i := i + 1) hn)
    unfold J_X12_readLine_29
    rw [m_num st hm1 hn A8]
    by_cases f1 : fN t n 0 mx (i + 1) = 0
    · rw [if_pos f1, zb_some]
      have z := two r1 (fun q => (hr0 q).1) (fun q => (hr1 q).1) f1
      by_cases q : r1 = 0
      · rw [if_pos q]
        rw [(hr0 q).2.2] at z ⊢
        exact z
      · rw [if_neg q]
        rw [(hr1 q).2.2] at z ⊢
        exact z
    · rw [if_neg f1, zb_some]
      have yf : yF t n mx my i = fN t n 0 mx (i + 1) := by
        unfold yF
        rw [if_pos f1]
      have go : ∀ hi : Int, zP (J_X12_readLine_46 r1 0 hi 0 (up (up T 51 7 ((i + 1 : Nat) : Int)) 51 8 (fN t n 0 mx (i + 1)))) (fun _ U => (yF t n mx my i ≠ 0 → U 51 8 = yF t n mx my i) ∧ (yF t n mx my i = 0 → mSt t n m U (yE t n i + 1) ∧ U 51 8 = 0 ∧ U 51 10 = x + 2 + yN t n i ∧ U 51 10 ≤ tP t n (yE t n i + 1) ∧ (∀ q : Int, q < x → U 57 q = T 57 q ∧ U 58 q = T 58 q ∧ U 59 q = T 59 q ∧ U 60 q = T 60 q) ∧ (U 57 x = K ∧ U 58 x = tV t n (i + 1) ∧ U 59 x = tV t n (i + 2) ∧ U 60 x = x + 2 + yN t n i) ∧ ∀ j : Nat, j < 1 + yN t n i → U 57 (x + 1 + j) = 4 ∧ U 58 (x + 1 + j) = gAcr (tK t n (i + 3 + 2 * j)) * tV t n (i + 4 + 2 * j) ∧ U 59 (x + 1 + j) = gDwn (tK t n (i + 3 + 2 * j)) * tV t n (i + 4 + 2 * j))) := by
        intro hi
        unfold J_X12_readLine_46
        have u8 : 0 < up (up T 51 7 ((i + 1 : Nat) : Int)) 51 8 (fN t n 0 mx (i + 1)) 51 8 := by
          rw [up_eq]
          omega
        rw [m_numF u8, zb_some]
        have fin : ∀ t0 : Int, zP (J_X12_readLine_60 0 0 t0 (up (up T 51 7 ((i + 1 : Nat) : Int)) 51 8 (fN t n 0 mx (i + 1)))) (fun _ U => (yF t n mx my i ≠ 0 → U 51 8 = yF t n mx my i) ∧ (yF t n mx my i = 0 → mSt t n m U (yE t n i + 1) ∧ U 51 8 = 0 ∧ U 51 10 = x + 2 + yN t n i ∧ U 51 10 ≤ tP t n (yE t n i + 1) ∧ (∀ q : Int, q < x → U 57 q = T 57 q ∧ U 58 q = T 58 q ∧ U 59 q = T 59 q ∧ U 60 q = T 60 q) ∧ (U 57 x = K ∧ U 58 x = tV t n (i + 1) ∧ U 59 x = tV t n (i + 2) ∧ U 60 x = x + 2 + yN t n i) ∧ ∀ j : Nat, j < 1 + yN t n i → U 57 (x + 1 + j) = 4 ∧ U 58 (x + 1 + j) = gAcr (tK t n (i + 3 + 2 * j)) * tV t n (i + 4 + 2 * j) ∧ U 59 (x + 1 + j) = gDwn (tK t n (i + 3 + 2 * j)) * tV t n (i + 4 + 2 * j))) := by
          intro t0
          refine zP_mono (m_tailF u8 ?_) (fun _ U hU => ?_)
          · rw [up_same, if_neg (by decide), up_same, if_neg (by decide), hx]
            omega
          · rw [up_eq] at hU
            exact ⟨fun _ => hU.trans yf.symm, fun z => absurd (yf.symm.trans z) f1⟩
        by_cases q : r1 = 0
        · rw [if_pos q]
          exact fin 1
        · rw [if_neg q]
          exact fin 0
      by_cases q : r1 = 0
      · rw [if_pos q]
        exact go 11
      · rw [if_neg q]
        exact go 12
  rcases hk with ⟨q, rfl, rfl, rfl⟩ | ⟨q, rfl, rfl, rfl⟩
  · rw [if_pos q, if_neg (by decide)]
    exact one 1 (fun z => by omega) (fun _ => ⟨rfl, rfl, rfl⟩)
  · rw [if_neg (show ¬ tK t n i = 4 by omega), if_pos rfl]
    exact one 0 (fun _ => ⟨rfl, rfl, rfl⟩) (fun z => by omega)
end MM
