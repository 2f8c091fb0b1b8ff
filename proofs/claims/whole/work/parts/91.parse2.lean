/-! both read alike: all of it -/
section PB
variable {t : Int → Int} {n : Int} {m : Nat}
theorem m_readF {f : Nat} {d : Int} {T : HS} (h : T 51 8 ≠ 0) : M_X12_readSteps (f + 1) d T = some (0, T) := by
  have eb : zBig = 4294967295 + 1 := rfl
  show L_X12_readSteps_0 (M_X12_readSteps f) d zBig T = _
  rw [eb, m_stepsF h]
theorem m_tailFF {f : Nat} {v x : Int} {B : HS} (h : B 51 8 ≠ 0) (hv : 0 ≤ v ∧ v ≤ 4) (hx : 0 ≤ x ∧ x < 1100) : ∃ U : HS, mTail (M_X12_readSteps (f + 1)) v x B = some (0, U) ∧ U 51 8 = B 51 8 := by
  unfold mTail
  rw [zl_in (by omega), m_readF h, zb_some, m_takeSignF h, zb_some, m_takeSignF h, zb_some, zg_in hx, zs_in]
  exact ⟨_, rfl, by rw [up_cell _ (by decide)]⟩
/-- a line, of both -/
theorem stp_line {S S1 : HS} {i : Nat} {r mx my : Int} (hc : cSt t n S i) (h0 : S 42 5 = 0) (hk : tK t n i = 4 ∧ mx = 16 ∧ my = 12 ∨ tK t n i = 5 ∧ mx = 15 ∧ my = 11) (e : M_X7_readLine mx my S = some (r, S1)) : stp S S1 := by
  have k2 := hc.k.2.1
  refine ⟨h0, fun z => by omega, fun K v v0 v1 => ?_⟩
  unfold J_X7_read_57 J_X7_read_149
  rcases hk with ⟨q, rfl, rfl⟩ | ⟨q, rfl, rfl⟩
  · rw [if_pos (by omega), e, zb_some, zl_in (by omega)]
  · rw [if_neg (by omega), if_pos (by omega), e, zb_some, zl_in (by omega)]
theorem stp_open {S S1 : HS} {i : Nat} {r : Int} (hc : cSt t n S i) (h0 : S 42 5 = 0) (hk : tK t n i = 6 ∨ tK t n i = 7) (e : M_X7_readOpening S = some (r, S1)) : stp S S1 := by
  have k2 := hc.k.2.1
  refine ⟨h0, fun z => by omega, fun K v v0 v1 => ?_⟩
  unfold J_X7_read_57 J_X7_read_149
  rcases hk with q | q
  · rw [if_neg (by omega), if_neg (by omega), if_pos (by omega), e, zb_some, zl_in (by omega)]
  · rw [if_neg (by omega), if_neg (by omega), if_neg (by omega), if_pos (by omega), e, zb_some, zl_in (by omega)]
theorem stp_close {S S1 : HS} {i : Nat} {r : Int} (hc : cSt t n S i) (h0 : S 42 5 = 0) (hk : tK t n i = 10) (e : M_X7_readClosing S = some (r, S1)) : stp S S1 := by
  have k2 := hc.k.2.1
  refine ⟨h0, fun z => by omega, fun K v v0 v1 => ?_⟩
  unfold J_X7_read_57 J_X7_read_149
  rw [if_neg (by omega), if_neg (by omega), if_neg (by omega), if_neg (by omega), if_neg (by omega), if_neg (by omega), if_pos (by omega), e, zb_some, zl_in (by omega)]
theorem stp_bad {S : HS} {i : Nat} (hn : 0 ≤ n ∧ n ≤ 1000) (hc : cSt t n S i) (h0 : S 42 5 = 0) (hk : ¬ (4 ≤ tK t n i ∧ tK t n i ≤ 7)) (h10 : tK t n i ≠ 10) (hd : 0 < S 42 4 ∨ tK t n i ≠ 12) : stp S (up S 42 5 (1 + 16 * tP t n i)) := by
  obtain ⟨k1, k2, -, -⟩ := hc.k
  have pb := tP_b (t := t) (i := i) hn
  refine ⟨h0, fun z => by omega, fun K v v0 v1 => ?_⟩
  unfold J_X7_read_57 J_X7_read_149
  rw [if_neg (by omega), if_neg (by omega), if_neg (by omega), if_neg (by omega), e_tell h0 (by decide) (by omega), zb_some, k1, zl_in (by omega)]
  by_cases a : S 40 3 = 8
  · rw [if_pos a]
  · rw [if_neg a]
    by_cases b : S 40 3 = 9
    · rw [if_pos b]
    · rw [if_neg b, if_neg (by omega)]
theorem mk_line {c : Int → Int} {o : HS} {i : Nat} {a x mx my K : Int} (hn : 0 ≤ n ∧ n ≤ 1000) (hm : tP t n m = n) (hm1 : m ≤ 1000) (hi : i ≤ m) (hk : tK t n i = 4 ∧ mx = 16 ∧ my = 12 ∧ K = 0 ∨ tK t n i = 5 ∧ mx = 15 ∧ my = 11 ∧ K = 1) (y0 : yF t n mx my i = 0) (s1 : c a = tK t n i) (s2 : c (a + 1) = tV t n (i + 1)) (s3 : c (a + 2) = tV t n (i + 2)) (s4 : c (a + 3) = 1 + yN t n i) (s5 : ∀ j : Nat, j < 1 + yN t n i → c (a + 4 + 2 * j) = tK t n (i + 3 + 2 * j) ∧ c (a + 5 + 2 * j) = tV t n (i + 4 + 2 * j)) (o1 : o 57 x = K ∧ o 58 x = tV t n (i + 1) ∧ o 59 x = tV t n (i + 2) ∧ o 60 x = x + 2 + yN t n i) (o2 : ∀ j : Nat, j < 1 + yN t n i → o 58 (x + 1 + j) = gAcr (tK t n (i + 3 + 2 * j)) * tV t n (i + 4 + 2 * j) ∧ o 59 (x + 1 + j) = gDwn (tK t n (i + 3 + 2 * j)) * tV t n (i + 4 + 2 * j)) : rLine c o a x (1 + yN t n i) := by
  have i1 := tK_m hm hi (show tK t n i ≠ 12 by omega)
  have g1 : fN t n 0 mx (i + 1) = 0 := by
    by_cases z : fN t n 0 mx (i + 1) = 0
    · exact z
    · unfold yF at y0
      rw [if_pos z] at y0
      exact absurd y0 z
  have g2 : fN t n 0 my (i + 2) = 0 := by
    by_cases z : fN t n 0 my (i + 2) = 0
    · exact z
    · unfold yF at y0
      rw [if_neg (fun q => q g1), if_pos z] at y0
      exact absurd y0 z
  have g3 : fW t n (i + 3) = 0 := by
    by_cases z : fW t n (i + 3) = 0
    · exact z
    · unfold yF at y0
      rw [if_neg (fun q => q g1), if_neg (fun q => q g2), if_pos z] at y0
      exact absurd y0 z
  have vv : ∀ {lo hi : Int} {j : Nat}, fN t n lo hi j = 0 → lo ≤ tV t n j ∧ tV t n j ≤ hi := by
    intro lo hi j h
    have k8 := (fN_r hn).2 h
    have pb := tP_b (t := t) (i := j) hn
    unfold fN at h
    rw [if_pos k8] at h
    by_cases z : tV t n j < lo ∨ hi < tV t n j
    · rw [if_pos z] at h
      omega
    · omega
  have v1 := vv g1
  have v2 := vv g2
  have i2 := tK_m hm (show i + 1 ≤ m by omega) (show tK t n (i + 1) ≠ 12 by have := (fN_r hn).2 g1; omega)
  have i3 := tK_m hm (show i + 2 ≤ m by omega) (show tK t n (i + 2) ≠ 12 by have := (fN_r hn).2 g2; omega)
  have w3 := fW_0 hn g3
  have i4 := tK_m hm (show i + 3 ≤ m by omega) (show tK t n (i + 3) ≠ 12 by omega)
  have i5 := tK_m hm (show i + 3 + 1 ≤ m by omega) (show tK t n (i + 3 + 1) ≠ 12 by have := w3.2.2.1; omega)
  have sp := (nW_sp hn hm 1001 (i + 5) (by omega) (by omega)).1
  have fw : ∀ j : Nat, j < 1 + yN t n i → fW t n (i + 3 + 2 * j) = 0 := by
    intro j hj
    cases j with
    | zero => exact g3
    | succ j =>
      have z := sp j (by unfold yN at hj; omega)
      rw [show i + 3 + 2 * (j + 1) = i + 5 + 2 * j by omega]
      exact z
  refine ⟨?_, ⟨by omega, by rw [s2]; exact o1.2.1⟩, ⟨by omega, by rw [s3]; exact o1.2.2.1⟩, by omega, by omega, fun j hj => ?_, ?_⟩
  · rcases hk with ⟨q, rfl, rfl, rfl⟩ | ⟨q, rfl, rfl, rfl⟩
    · left
      exact ⟨by omega, o1.1, by omega, by omega⟩
    · right
      exact ⟨by omega, o1.1, by omega, by omega⟩
  · have w := fW_0 hn (fw j hj)
    have e : i + 3 + 2 * j + 1 = i + 4 + 2 * j := by omega
    rw [e] at w
    obtain ⟨x1, x2⟩ := s5 j hj
    obtain ⟨y1, y2⟩ := o2 j hj
    rw [x1, x2]
    exact ⟨⟨w.2.1, w.1⟩, w.2.2.2, y1, y2⟩
  · have z := wsum (f := fun j => c (a + 5 + 2 * j)) (p := i + 3) hn (1 + yN t n i) (fun j hj => ⟨fw j hj, by
      have x2 := (s5 j hj).2
      rw [show i + 3 + 2 * j + 1 = i + 4 + 2 * j by omega]
      exact x2⟩)
    have b1 := tP_b (t := t) (i := i + 3) hn
    have b2 := tP_b (t := t) (i := i + 3 + 2 * (1 + yN t n i)) hn
    omega
theorem fN_v {lo hi : Int} {j : Nat} (hn : 0 ≤ n ∧ n ≤ 1000) (h : fN t n lo hi j = 0) : lo ≤ tV t n j ∧ tV t n j ≤ hi := by
  have k8 := (fN_r hn).2 h
  have pb := tP_b (t := t) (i := j) hn
  unfold fN at h
  rw [if_pos k8] at h
  by_cases z : tV t n j < lo ∨ hi < tV t n j
  · rw [if_pos z] at h
    omega
  · omega
theorem oF_6 {i : Nat} (hn : 0 ≤ n ∧ n ≤ 1000) (hk : tK t n i = 6) (h : oF t n i = 0) : (1 ≤ tV t n (i + 1) ∧ tV t n (i + 1) ≤ 9) ∧ (0 ≤ tK t n (i + 2) ∧ tK t n (i + 2) ≤ 3) ∧ (0 ≤ tV t n (i + 3) ∧ tV t n (i + 3) ≤ 16) := by
  have g1 : fN t n 1 9 (i + 1) = 0 := by
    by_cases z : fN t n 1 9 (i + 1) = 0
    · exact z
    · unfold oF at h
      rw [if_pos hk, if_pos z] at h
      exact absurd h z
  have g2 : fW t n (i + 2) = 0 := by
    by_cases z : fW t n (i + 2) = 0
    · exact z
    · unfold oF at h
      rw [if_pos hk, if_neg (fun q => q g1), if_pos z] at h
      exact absurd h z
  have w := fW_0 hn g2
  exact ⟨fN_v hn g1, ⟨w.2.1, w.1⟩, w.2.2.2⟩
theorem fW_r {i : Nat} (hn : 0 ≤ n ∧ n ≤ 1000) : 0 ≤ fW t n i := by
  have pb := tP_b (t := t) (i := i) hn
  have a := (fN_r (t := t) (lo := 0) (hi := 16) (i := i + 1) hn).1
  unfold fW
  split
  · omega
  · exact a
theorem yF_r {mx my : Int} {i : Nat} (hn : 0 ≤ n ∧ n ≤ 1000) : 0 ≤ yF t n mx my i := by
  have a := (fN_r (t := t) (lo := 0) (hi := mx) (i := i + 1) hn).1
  have b := (fN_r (t := t) (lo := 0) (hi := my) (i := i + 2) hn).1
  have c := fW_r (t := t) (i := i + 3) hn
  have d := fW_r (t := t) (i := yE t n i) hn
  unfold yF
  repeat' split
  all_goals omega
theorem oF_r {i : Nat} (hn : 0 ≤ n ∧ n ≤ 1000) : 0 ≤ oF t n i := by
  have a := (fN_r (t := t) (lo := 1) (hi := 9) (i := i + 1) hn).1
  have b := fW_r (t := t) (i := i + 2) hn
  have c := (oG_r (t := t) (j := i + 4) hn).1
  have d := (oG_r (t := t) (j := i + 1) hn).1
  unfold oF
  repeat' split
  all_goals omega
theorem parse (hn : 0 ≤ n ∧ n ≤ 1000) (hm : tP t n m = n) (hm1 : m ≤ 1000) : ∀ (g i d : Nat) (S T : HS) (NM : Nat), i ≤ m → m + 1 ≤ i + g → g ≤ 2000 → d ≤ 4 → cSt t n S i → S 42 5 = 0 → S 42 4 = d → (0 ≤ S 42 3 ∧ S 42 3 ≤ tP t n i) → mSt t n m T i → T 51 8 = 0 → (0 ≤ T 51 10 ∧ T 51 10 ≤ tP t n i) → g + 2 ≤ NM → zP (L_X12_readSteps_0 (M_X12_readSteps (5 - d)) d NM T) (fun _ U => PP t n m g d i S T U) := by
  intro g
  induction g with
  | zero =>
    intro i d S T NM h1 h2
    omega
  | succ g ih =>
    intro i d S T NM hi hg hg2 hd hc c5 c4 c3 h h0 hx hN
    obtain ⟨NM, rfl⟩ : ∃ N', NM = N' + 1 := ⟨NM - 1, by omega⟩
    have pb := tP_b (t := t) (i := i) hn
    obtain ⟨w0, w1, w2, -⟩ := m_word h hm1 h0
    obtain ⟨k1, k2, -, -⟩ := hc.k
    rw [L_X12_readSteps_0.eq_2, m_isStep h hm1 h0, zb_some]
    by_cases st : 4 ≤ tK t n i ∧ tK t n i ≤ 7
    · have im := tK_m hm hi (show tK t n i ≠ 12 by omega)
      have p1' := (tP_next (t := t) (i := i) hn).2.2.1 (by omega)
      have line : ∀ mx my K : Int, (tK t n i = 4 ∧ mx = 16 ∧ my = 12 ∧ K = 0 ∨ tK t n i = 5 ∧ mx = 15 ∧ my = 11 ∧ K = 1) → zP (J_X12_readSteps_23 (M_X12_readSteps (5 - d)) (L_X12_readSteps_0 (M_X12_readSteps (5 - d)) d NM) d T) (fun _ U => PP t n m (g + 1) d i S T U) := by
        intro mx my K hk
        obtain ⟨r, S1, e1, s1, s2⟩ := e_line (mx := mx) (my := my) hn hm hm1 hi hc c5 (by omega) c3
        have sp : stp S S1 := stp_line hc c5 (by rcases hk with ⟨q1, q2, q3, -⟩ | ⟨q1, q2, q3, -⟩; exact Or.inl ⟨q1, q2, q3⟩; exact Or.inr ⟨q1, q2, q3⟩) e1
        unfold J_X12_readSteps_23
        rw [zP_zb]
        refine zP_mono (m_line hn hm hm1 h h0 hk rfl hx) (fun _ T1 hT => ?_)
        obtain ⟨tF, tO⟩ := hT
        by_cases y0 : yF t n mx my i = 0
        · obtain ⟨a1, a2, a3, a4, a5, a6, a7, a8, a9, a10, a11⟩ := s2 y0
          obtain ⟨b1, b2, b3, b4, b5, b6, b7⟩ := tO y0
          have ie := b1.2.2.2
          have hE : i + 6 ≤ yE t n i + 1 := by
            unfold yE
            omega
          have s4 : S1 42 4 = d := (a11 42 4 (by decide) (by decide)).trans c4
          refine zP_mono (ih (yE t n i + 1) d S1 T1 NM ie (by omega) (by omega) hd a1 a2 s4 ⟨by omega, a4⟩ b1 b2 ⟨by omega, b4⟩ (by omega)) (fun _ U hU => ?_)
          refine PP.cont hU (sp.c hi hm1 (by omega)) (by omega) (by omega) (by omega) a5 (fun q _ => by rw [a11.cell 44 (by decide) (by decide)]) b5 (fun S' h1 h2 h3 h4 hr => ?_)
          have e1 : S 42 3 + 4 + 2 * ((1 + yN t n i : Nat) : Int) = S1 42 3 := by omega
          have e2 : T 51 10 + 1 + ((1 + yN t n i : Nat) : Int) = T1 51 10 := by omega
          have ag : ∀ q : Int, q < T1 51 10 → U 57 q = T1 57 q ∧ U 58 q = T1 58 q ∧ U 59 q = T1 59 q ∧ U 60 q = T1 60 q := h2
          refine Or.inr (Or.inl ⟨1 + yN t n i, mk_line hn hm hm1 hi hk y0 ?_ ?_ ?_ ?_ (fun j hj => ?_) ⟨?_, ?_, ?_, ?_⟩ (fun j hj => ?_), by omega, by omega, by rw [e1, e2]; exact hr⟩)
          · rw [h1 _ (by omega)]
            exact a6
          · rw [h1 _ (by omega)]
            exact a7
          · rw [h1 _ (by omega)]
            exact a8
          · rw [h1 _ (by omega)]
            exact a9
          · rw [h1 _ (by omega), h1 _ (by omega)]
            exact a10 j hj
          · rw [(ag _ (by omega)).1]
            exact b6.1
          · rw [(ag _ (by omega)).2.1]
            exact b6.2.1
          · rw [(ag _ (by omega)).2.2.1]
            exact b6.2.2.1
          · rw [(ag _ (by omega)).2.2.2]
            exact b6.2.2.2
          · rw [(ag _ (by omega)).2.1, (ag _ (by omega)).2.2.1]
            exact (b7 j hj).2
        · have tf : T1 51 8 ≠ 0 := by rw [tF y0]; exact y0
          obtain ⟨NM, rfl⟩ : ∃ N', NM = N' + 1 := ⟨NM - 1, by omega⟩
          rw [m_stepsF tf, zP_ret]
          exact Or.inl ⟨by have := yF_r (t := t) (mx := mx) (my := my) (i := i) hn; rw [tF y0]; omega, S1, by rw [s1 y0, tF y0], sp.f hi hm1 (by rw [s1 y0]; exact y0)⟩
      rw [if_pos st, if_neg (by decide), w0, zb_some]
      by_cases q4 : tK t n i = 4
      · rw [if_pos q4, if_neg (by decide)]
        exact line 16 12 0 (Or.inl ⟨q4, rfl, rfl, rfl⟩)
      · rw [if_neg q4, if_pos rfl, w1, zb_some]
        by_cases q5 : tK t n i = 5
        · rw [if_pos q5, if_neg (by decide)]
          exact line 15 11 1 (Or.inr ⟨q5, rfl, rfl, rfl⟩)
        · rw [if_neg q5, if_pos rfl]
          have blk : tK t n i = 6 ∨ tK t n i = 7 := by omega
          by_cases d4 : d = 4
          · subst d4
            have tf : up T 51 8 (5 + 16 * tP t n i) 51 8 ≠ 0 := by rw [up_eq]; omega
            have eo : M_X7_readOpening S = some (0, up S 42 5 (5 + 16 * S 40 4)) := by
              unfold M_X7_readOpening
              rw [if_neg (by omega), e_tell c5 (by decide) (by omega), zb_some]
            have sp := stp_open hc c5 blk eo
            obtain ⟨NM, rfl⟩ : ∃ N', NM = N' + 1 := ⟨NM - 1, by omega⟩
            unfold M_X12_readBlock
            rw [if_pos (show ((4 : Nat) : Int) = 4 from rfl), m_wrong h hm1 hn h0 (by decide), zb_some, zb_some, m_stepsF tf, zP_ret]
            exact Or.inl ⟨by rw [up_eq]; omega, _, by rw [up_eq, up_eq, k1], sp.f hi hm1 (by rw [up_eq]; omega)⟩
          · obtain ⟨r, A, eA, aF, aO⟩ := e_opn hn hc c5 blk c4 (by omega) rfl c3
            have sp := stp_open hc c5 blk eA
            obtain ⟨e, he⟩ : ∃ e, 5 - d = e + 1 := ⟨4 - d, by omega⟩
            have ihr : M_X12_readSteps (5 - d) = M_X12_readSteps (e + 1) := by rw [he]
            rw [ihr] at *
            obtain ⟨t0, ht0, eM⟩ : ∃ t0 : Int, (tK t n i = 6 ∧ t0 = 2 ∨ tK t n i = 7 ∧ t0 = 3) ∧ M_X12_readBlock (M_X12_readSteps (e + 1)) d T = J_X12_readBlock_25 (M_X12_readSteps (e + 1)) d t0 T := by
              unfold M_X12_readBlock
              rw [if_neg (show ¬ (d : Int) = 4 by omega), w2, zb_some]
              rcases blk with q | q
              · refine ⟨2, Or.inl ⟨q, rfl⟩, ?_⟩
                rw [zif1 q, if_neg (by decide)]
              · refine ⟨3, Or.inr ⟨q, rfl⟩, ?_⟩
                rw [zif0 (by omega), if_pos rfl]
            obtain ⟨B, eB, bF, bO⟩ := m_open (rec := M_X12_readSteps (e + 1)) (v := d) hn hm hm1 h h0 ht0 rfl hx
            rw [eM, eB]
            by_cases o0 : oF t n i = 0
            · obtain ⟨a1, a2, a3, a4, a5, a6, a7, a8, a9, a10⟩ := aO o0
              obtain ⟨b1, b2, b3, b4, b5, b6, b7⟩ := bO o0
              have iE := b1.2.2.2
              have hE : i + 2 ≤ oE t n i := by
                unfold oE
                split <;> omega
              have hX : 1 ≤ oX t n i ∧ oX t n i ≤ 2 := by
                unfold oX
                split <;> omega
              have hH : 1 ≤ oH t n i ∧ oH t n i ≤ 4 := by
                unfold oH
                split <;> omega
              have dd : ((d + 1 : Nat) : Int) = (d : Int) + 1 := rfl
              obtain ⟨r1, U1, e1, hP⟩ := ih (oE t n i) (d + 1) A B zBig iE (by omega) (by omega) (by omega) a1 a2 (by rw [dd]; exact a5) ⟨by omega, a4⟩ b1 b2 ⟨by omega, b4⟩ (by have : zBig = 4294967296 := rfl; omega)
              have eR : M_X12_readSteps (e + 1) ((d : Int) + 1) B = some (r1, U1) := by
                have z : 5 - (d + 1) = e := by omega
                rw [z] at e1
                exact e1
              unfold mTail
              rw [zl_in (by omega), eR, zb_some]
              rcases hP with ⟨f1, S', f2, f3⟩ | ⟨u0, j, S1, x1, x2, x3, x4, x5, x6, x7, x8, x9, y1, y2, y3, y4⟩
              · rw [m_takeSignF (by omega), zb_some, m_takeSignF (by omega), zb_some, zg_in (by omega), zs_in, zb_some]
                obtain ⟨NM, rfl⟩ : ∃ N', NM = N' + 1 := ⟨NM - 1, by omega⟩
                have tf : up U1 60 (T 51 10) (U1 51 10) 51 8 = U1 51 8 := by rw [up_cell _ (by decide)]
                rw [m_stepsF (by rw [tf]; omega), zP_ret]
                exact Or.inl ⟨by rw [tf]; exact f1, S', by rw [tf]; exact f2, (sp.c hi hm1 (by omega)).trF f3⟩
              · have pj := tP_b (t := t) (i := j) hn
                rw [(m_sign x3 hm1 hn u0).2.1, zb_some]
                by_cases q10 : tK t n j = 10
                · have jm := tK_m hm x1.2 (show tK t n j ≠ 12 by omega)
                  have pj1 := tP_b (t := t) (i := j + 1) hn
                  have st2 := x3.at (j := j + 1) jm
                  have V8 : up U1 51 7 ((j + 1 : Nat) : Int) 51 8 = 0 := by rw [up_same, if_neg (by decide)]; exact u0
                  have s44 : S1 44 d = S 42 3 := (y1 d (by rw [dd]; omega)).trans a6
                  have s43 : S1 43 (S 42 3) = tK t n i := (x9 _ (by omega)).trans a8
                  obtain ⟨r2, S2, e2, z1, z2⟩ := e_close (d := d) (s := S 42 3) (hd := oH t n i) hn x4 x5 (by rw [x6]; rfl) (by omega) s44 (by
                    rw [s43]
                    unfold oH
                    rcases blk with q | q
                    · left
                      exact ⟨q, if_pos q⟩
                    · right
                      exact ⟨q, if_neg (by omega)⟩) (by omega)
                  have sp2 := stp_close x4 x5 q10 e2
                  rw [if_pos q10, (m_sign st2 hm1 hn V8).2.2, zb_some]
                  by_cases q11 : tK t n (j + 1) = 11
                  · have jm2 := tK_m hm (show j + 1 ≤ m by omega) (show tK t n (j + 1) ≠ 12 by omega)
                    have pn := (tP_next (t := t) (i := j) hn).2.2.1 (by omega)
                    have pn2 : tP t n (j + 1) + 1 ≤ tP t n (j + 2) ∧ tP t n (j + 1) < n := (tP_next (t := t) (i := j + 1) hn).2.2.1 (by omega)
                    obtain ⟨c1, c2, c3', c4', c5', c6'⟩ := z2 q11
                    rw [if_pos q11, zg_in (by omega), zs_in, zb_some]
                    have st3 : mSt t n m (up (up U1 51 7 ((j + 1 : Nat) : Int)) 51 7 ((j + 1 + 1 : Nat) : Int)) (j + 2) := st2.at (j := j + 1 + 1) jm2
                    have V10' : up (up U1 51 7 ((j + 1 : Nat) : Int)) 51 7 ((j + 1 + 1 : Nat) : Int) 51 10 = U1 51 10 := by rw [up_same, if_neg (by decide), up_same, if_neg (by decide)]
                    rw [V10']
                    have st4 : mSt t n m (up (up (up U1 51 7 ((j + 1 : Nat) : Int)) 51 7 ((j + 1 + 1 : Nat) : Int)) 60 (T 51 10) (U1 51 10)) (j + 2) := st3.fr (zfr_up zFr.rf (by decide))
                    have V8' : up (up (up U1 51 7 ((j + 1 : Nat) : Int)) 51 7 ((j + 1 + 1 : Nat) : Int)) 60 (T 51 10) (U1 51 10) 51 8 = 0 := by rw [up_cell _ (by decide), up_same, if_neg (by decide)]; exact V8
                    have V10 : up (up (up U1 51 7 ((j + 1 : Nat) : Int)) 51 7 ((j + 1 + 1 : Nat) : Int)) 60 (T 51 10) (U1 51 10) 51 10 = U1 51 10 := by rw [up_cell _ (by decide)]; exact V10'
                    have V60 : ∀ q : Int, up (up (up U1 51 7 ((j + 1 : Nat) : Int)) 51 7 ((j + 1 + 1 : Nat) : Int)) 60 (T 51 10) (U1 51 10) 60 q = if q = T 51 10 then U1 51 10 else U1 60 q := fun q => by rw [up_same, up_cell _ (by decide), up_cell _ (by decide)]
                    have Vk : ∀ k : Nat, k ≠ 51 → k ≠ 60 → ∀ q : Int, up (up (up U1 51 7 ((j + 1 : Nat) : Int)) 51 7 ((j + 1 + 1 : Nat) : Int)) 60 (T 51 10) (U1 51 10) k q = U1 k q := fun k h1 h2 q => by rw [up_cell _ h2, up_cell _ h1, up_cell _ h1]
                    generalize up (up (up U1 51 7 ((j + 1 : Nat) : Int)) 51 7 ((j + 1 + 1 : Nat) : Int)) 60 (T 51 10) (U1 51 10) = V at *
                    have sz : S 42 3 ≤ S2 42 3 ∧ S2 42 3 ≤ S1 42 3 := by
                      by_cases z : S1 42 3 = S 42 3 + oH t n i + 1
                      · have := (c5' z).1
                        omega
                      · have := (c6' z).1
                        omega
                    have s2c : ∀ q : Int, q ≠ S 42 3 + oH t n i → S2 43 q = S1 43 q := by
                      intro q hq
                      by_cases z : S1 42 3 = S 42 3 + oH t n i + 1
                      · rw [(c5' z).2]
                      · rw [(c6' z).2 q, if_neg hq]
                    have agV : ∀ q : Int, q ≠ T 51 10 → agr U1 V q := fun q hq => ⟨Vk _ (by decide) (by decide) q, Vk _ (by decide) (by decide) q, Vk _ (by decide) (by decide) q, by rw [V60, if_neg hq]⟩
                    have nxt := ih (j + 2) d S2 V NM jm2 (by omega) (by omega) hd c1 c2 c3' ⟨by omega, by omega⟩ st4 V8' ⟨by omega, by omega⟩ (by omega)
                    rw [he] at nxt
                    refine zP_mono nxt (fun _ U hU => ?_)
                    refine PP.cont hU ((sp.c hi hm1 (by omega)).tr (y4.tr (sp2.c x1.2 hm1 (by omega)))) (by omega) sz.1 (by omega) (fun q hq => ?_) (fun q hq => ?_) (fun q hq => ?_) (fun S' h1 h2 h3 h4 hr => ?_)
                    · rw [s2c q (by omega), x9 q (by omega), a9 q hq]
                    · rw [c4', y1 q (by omega), a7 q hq]
                    · obtain ⟨p1, p2, p3, p4⟩ := agV q (by omega)
                      obtain ⟨p5, p6, p7, p8⟩ := y2 q (by omega)
                      obtain ⟨p9, p10, p11, p12⟩ := b5 q hq
                      exact ⟨(p1.trans p5).trans p9, (p2.trans p6).trans p10, (p3.trans p7).trans p11, (p4.trans p8).trans p12⟩
                    · rw [V10] at h2 h4 hr
                      -- what stands at the head
                      have ag : ∀ q : Int, q < U1 51 10 → U 57 q = V 57 q ∧ U 58 q = V 58 q ∧ U 59 q = V 59 q ∧ U 60 q = V 60 q := h2
                      have u60 : U 60 (T 51 10) = U1 51 10 := by rw [(ag _ (by omega)).2.2.2, V60, if_pos rfl]
                      have ub : ∀ q : Int, q < B 51 10 → U 57 q = B 57 q ∧ U 58 q = B 58 q ∧ U 59 q = B 59 q := by
                        intro q hq
                        obtain ⟨p1, p2, p3, p4⟩ := ag q (by omega)
                        obtain ⟨p5, p6, p7, p8⟩ := y2 q hq
                        rw [Vk _ (by decide) (by decide)] at p1 p2 p3
                        exact ⟨p1.trans p5, p2.trans p6, p3.trans p7⟩
                      have u57 : U 57 (T 51 10) = t0 := ((ub _ (by omega)).1).trans b6
                      have inO : ∀ q : Int, B 51 10 ≤ q → q < U1 51 10 → agr U1 U q := by
                        intro q q0 q1
                        obtain ⟨p1, p2, p3, p4⟩ := ag q q1
                        obtain ⟨p5, p6, p7, p8⟩ := agV q (by omega)
                        exact ⟨p1.trans p5, p2.trans p6, p3.trans p7, p4.trans p8⟩
                      by_cases z : S1 42 3 = S 42 3 + oH t n i + 1
                      · -- nothing stands in it
                        have s23 := (c5' z).1
                        have em : Rel g (d + 1) (S' 43) U (S 42 3) (S 42 3) (B 51 10) (U1 51 10) := by
                          have e3 : A 42 3 = S1 42 3 := by omega
                          rw [e3] at y3
                          exact Rel.cg g (d + 1) _ _ _ _ (Rel.mv (e := S 42 3) g (d + 1) _ _ _ y3) (fun q q0 q1 => by omega) inO
                        rw [s23] at hr
                        rw [b3] at em
                        refine Or.inr (Or.inr (Or.inr (Or.inr ⟨U1 51 10, oX t n i, by omega, ?_, u60, ⟨by omega, by omega⟩, by omega, em, hr⟩)))
                        rcases ht0 with ⟨q, rfl⟩ | ⟨q, rfl⟩
                        · left
                          have eX : oX t n i = 2 := if_pos q
                          obtain ⟨l1, l2, l3⟩ := b7 q
                          have w5 := oF_6 hn q o0
                          rw [eX] at b3
                          have m1 := ub (T 51 10) (by omega)
                          have m2 := ub (T 51 10 + 1) (by omega)
                          have gb := gA_b (k := tK t n (i + 2)) w5.2.2
                          refine ⟨eX, u57, ?_, ?_, ?_⟩
                          · rw [m1.2.1, l1]
                            exact w5.1
                          · rw [m2.2.1, l2]
                            exact gb.1
                          · rw [m2.2.2, l3]
                            exact gb.2
                        · right
                          exact ⟨if_neg (by omega), u57⟩
                      · obtain ⟨s23, s24⟩ := c6' z
                        rw [s23] at hr h1 h3
                        have em : Rel g (d + 1) (S' 43) U (A 42 3) (S1 42 3) (B 51 10) (U1 51 10) := Rel.cg g (d + 1) _ _ _ _ y3 (fun q q0 q1 => by rw [h1 q q1, s2c q (by omega)]) inO
                        have cA : ∀ q : Int, q < S 42 3 + oH t n i → S' 43 q = A 43 q := fun q hq => by
                          rw [h1 q (by omega), s2c q (by omega), x9 q (by omega)]
                        have cH : S' 43 (S 42 3 + oH t n i) = S1 42 3 := by
                          rw [h1 _ (by omega), s24, if_pos rfl]
                        have c0 : S' 43 (S 42 3) = tK t n i := (cA _ (by omega)).trans a8
                        rw [a3, b3] at em
                        rcases ht0 with ⟨q, rfl⟩ | ⟨q, rfl⟩
                        · have eX : oX t n i = 2 := if_pos q
                          have eH : oH t n i = 4 := if_pos q
                          obtain ⟨l1, l2, l3⟩ := b7 q
                          obtain ⟨l4, l5, l6⟩ := a10 q
                          have w5 := oF_6 hn q o0
                          rw [eX] at b3 em
                          rw [eH] at cA cH em a3
                          have m1 := ub (T 51 10) (by omega)
                          have m2 := ub (T 51 10 + 1) (by omega)
                          have k1' : S' 43 (S 42 3 + 1) = tV t n (i + 1) := (cA _ (by omega)).trans l4
                          have k2' : S' 43 (S 42 3 + 2) = tK t n (i + 2) := (cA _ (by omega)).trans l5
                          have k3' : S' 43 (S 42 3 + 3) = tV t n (i + 3) := (cA _ (by omega)).trans l6
                          have e5 : S 42 3 + 4 + 1 = S 42 3 + 5 := by omega
                          rw [e5] at em
                          refine Or.inr (Or.inr (Or.inl ⟨S1 42 3, U1 51 10, by omega, ?_, cH, u60, ⟨by omega, h3⟩, ⟨by omega, h4⟩, em, hr⟩))
                          unfold rHead
                          rw [k1', k2', k3', c0, m1.2.1, l1, m2.2.1, l2, m2.2.2, l3]
                          exact ⟨q, u57, ⟨w5.1.1, w5.1.2, rfl⟩, w5.2.1, w5.2.2, rfl, rfl⟩
                        · have eX : oX t n i = 1 := if_neg (by omega)
                          have eH : oH t n i = 1 := if_neg (by omega)
                          rw [eX] at em b3
                          rw [eH] at cH em a3
                          have e5 : S 42 3 + 1 + 1 = S 42 3 + 2 := by omega
                          rw [e5] at em
                          exact Or.inr (Or.inr (Or.inr (Or.inl ⟨S1 42 3, U1 51 10, by omega, c0.trans q, u57, cH, u60, ⟨by omega, h3⟩, ⟨by omega, h4⟩, em, hr⟩)))
                  · rw [if_neg q11, zg_in (by omega), zs_in, zb_some]
                    have tf : ∀ a b : Int, up (up (up U1 51 7 ((j + 1 : Nat) : Int)) 51 8 a) 60 (T 51 10) b 51 8 = a := fun a b => by rw [up_cell _ (by decide), up_eq]
                    obtain ⟨NM, rfl⟩ : ∃ N', NM = N' + 1 := ⟨NM - 1, by omega⟩
                    rw [m_stepsF (by rw [tf]; omega), zP_ret]
                    have sf := z1 q11
                    exact Or.inl ⟨by rw [tf]; omega, S2, by rw [tf]; exact sf, ((sp.c hi hm1 (by omega)).tr y4).trF (sp2.f x1.2 hm1 (by omega))⟩
                · have sp2 := stp_bad hn x4 x5 x2 q10 (Or.inl (by rw [x6]; omega))
                  have tf0 : up U1 51 8 (1 + 16 * tP t n j) 51 8 ≠ 0 := by rw [up_eq]; omega
                  rw [if_neg q10, m_takeSignF tf0, zb_some, zg_in (by omega), zs_in, zb_some]
                  have tf : ∀ b : Int, up (up U1 51 8 (1 + 16 * tP t n j)) 60 (T 51 10) b 51 8 = 1 + 16 * tP t n j := fun b => by rw [up_cell _ (by decide), up_eq]
                  obtain ⟨NM, rfl⟩ : ∃ N', NM = N' + 1 := ⟨NM - 1, by omega⟩
                  rw [m_stepsF (by rw [tf]; omega), zP_ret]
                  exact Or.inl ⟨by rw [tf]; omega, _, by rw [tf, up_eq], ((sp.c hi hm1 (by omega)).tr y4).trF (sp2.f x1.2 hm1 (by rw [up_eq]; omega))⟩
            · have bf : B 51 8 ≠ 0 := by rw [bF o0]; exact o0
              obtain ⟨U, eU, u8⟩ := m_tailFF (f := e) (v := d) (x := T 51 10) bf (by omega) (by omega)
              have uf : U 51 8 ≠ 0 := by rw [u8]; exact bf
              obtain ⟨NM, rfl⟩ : ∃ N', NM = N' + 1 := ⟨NM - 1, by omega⟩
              rw [eU, zb_some, m_stepsF uf, zP_ret]
              exact Or.inl ⟨by have := oF_r (t := t) (i := i) hn; rw [u8, bF o0]; omega, A, by rw [aF o0, u8, bF o0], sp.f hi hm1 (by rw [aF o0]; exact o0)⟩
    · rw [if_neg st, if_pos rfl, zP_ret]
      exact Or.inr ⟨h0, i, S, ⟨Nat.le_refl _, hi⟩, st, h, hc, c5, c4, ⟨Int.le_refl _, c3.2⟩, ⟨Int.le_refl _, hx.2⟩, fun _ _ => rfl, fun _ _ => rfl, fun _ _ => ⟨rfl, rfl, rfl, rfl⟩, Or.inl ⟨rfl, rfl⟩, chn.rf⟩
end PB
