/-! both read alike -/
section PA
variable {t : Int → Int} {n : Int} {m : Nat}
theorem gA_b {k v : Int} (hv : 0 ≤ v ∧ v ≤ 16) : (-16 ≤ gAcr k * v ∧ gAcr k * v ≤ 16) ∧ (-16 ≤ gDwn k * v ∧ gDwn k * v ≤ 16) := by
  have a : gAcr k = -1 ∨ gAcr k = 0 ∨ gAcr k = 1 := by
    unfold gAcr
    repeat' split
    all_goals omega
  have b : gDwn k = -1 ∨ gDwn k = 0 ∨ gDwn k = 1 := by
    unfold gDwn
    repeat' split
    all_goals omega
  rcases a with a | a | a <;> rcases b with b | b | b <;> rw [a, b] <;> omega
theorem wsum {f : Int → Int} {p : Nat} (hn : 0 ≤ n ∧ n ≤ 1000) : ∀ J : Nat, (∀ j : Nat, j < J → fW t n (p + 2 * j) = 0 ∧ f j = tV t n (p + 2 * j + 1)) → zsum f J ≤ 4 * (tP t n (p + 2 * J) - tP t n p) := by
  intro J
  induction J with
  | zero =>
    intro _
    show (0 : Int) ≤ 4 * (tP t n p - tP t n p)
    omega
  | succ J ih =>
    intro h
    obtain ⟨h1, h2⟩ := h J (by omega)
    have w := fW_0 hn h1
    have a := (tP_next (t := t) (i := p + 2 * J) hn).1 w.1
    have b := ((tP_next (t := t) (i := p + 2 * J + 1) hn).2.2.2 w.2.2.1).2 w.2.2.2.2
    have e : p + 2 * J + 1 + 1 = p + 2 * (J + 1) := by omega
    rw [e] at b
    have := ih (fun j hj => h j (by omega))
    rw [zsum_s, h2]
    omega
/-- a step of the class -/
def stp (S S1 : HS) : Prop := S 42 5 = 0 ∧ ¬ (S 42 4 ≤ 0 ∧ S 40 3 = 12) ∧ ∀ (K : Int → HS → zO2) (v : Int), 0 ≤ v → v ≤ 1000 → J_X7_read_57 K v S = K (v + 1) S1
theorem stp.nx {S S1 : HS} (h : stp S S1) {k : HS → zO2} {N : Nat} {v : Int} (v0 : 0 ≤ v) (v1 : v ≤ 1000) : L_X7_read_24 k (N + 1) v S = L_X7_read_24 k N (v + 1) S1 := by
  obtain ⟨h1, h2, h3⟩ := h
  rw [L_X7_read_24.eq_2, if_neg (by omega), if_pos h1]
  by_cases g : 0 < S 42 4
  · rw [if_pos g, h3 _ v v0 v1]
  · rw [if_neg g, if_neg (fun z => h2 ⟨by omega, z⟩), h3 _ v v0 v1]
theorem rd_F {S : HS} {k : HS → zO2} {N : Nat} {v : Int} (h : S 42 5 ≠ 0) : L_X7_read_24 k (N + 1) v S = k S := by
  rw [L_X7_read_24.eq_2]
  by_cases g : 1000 < v
  · rw [if_pos g]
  · rw [if_neg g, if_neg h]
def chn (m : Nat) (i : Nat) (S : HS) (j : Nat) (S' : HS) : Prop := ∀ (k : HS → zO2) (N : Nat) (v : Int), 0 ≤ v → v ≤ i → m + 2 ≤ N + i → ∃ (N' : Nat) (v' : Int), m + 2 ≤ N' + j ∧ 0 ≤ v' ∧ v' ≤ j ∧ L_X7_read_24 k N v S = L_X7_read_24 k N' v' S'
def chF (m : Nat) (i : Nat) (S : HS) (S' : HS) : Prop := ∀ (k : HS → zO2) (N : Nat) (v : Int), 0 ≤ v → v ≤ i → m + 2 ≤ N + i → L_X7_read_24 k N v S = k S'
theorem chn.rf {i : Nat} {S : HS} : chn m i S i S := fun k N v h1 h2 h3 => ⟨N, v, h3, h1, h2, rfl⟩
theorem chn.tr {i j l : Nat} {S T U : HS} (h : chn m i S j T) (h' : chn m j T l U) : chn m i S l U := by
  intro k N v h1 h2 h3
  obtain ⟨N', v', a1, a2, a3, e⟩ := h k N v h1 h2 h3
  obtain ⟨N'', v'', b1, b2, b3, e'⟩ := h' k N' v' a2 a3 a1
  exact ⟨N'', v'', b1, b2, b3, e.trans e'⟩
theorem chn.trF {i j : Nat} {S T U : HS} (h : chn m i S j T) (h' : chF m j T U) : chF m i S U := by
  intro k N v h1 h2 h3
  obtain ⟨N', v', a1, a2, a3, e⟩ := h k N v h1 h2 h3
  exact e.trans (h' k N' v' a2 a3 a1)
theorem stp.c {i j : Nat} {S S1 : HS} (h : stp S S1) (hi : i ≤ m) (hm1 : m ≤ 1000) (hj : i + 1 ≤ j) : chn m i S j S1 := by
  intro k N v h1 h2 h3
  obtain ⟨N, rfl⟩ : ∃ N', N = N' + 1 := ⟨N - 1, by omega⟩
  exact ⟨N, v + 1, by omega, by omega, by omega, h.nx h1 (by omega)⟩
theorem stp.f {i : Nat} {S S1 : HS} (h : stp S S1) (hi : i ≤ m) (hm1 : m ≤ 1000) (hf : S1 42 5 ≠ 0) : chF m i S S1 := by
  intro k N v h1 h2 h3
  obtain ⟨N, rfl⟩ : ∃ N', N = N' + 1 + 1 := ⟨N - 2, by omega⟩
  rw [h.nx h1 (by omega), rd_F hf]
/-- where both have come to -/
def PP (t : Int → Int) (n : Int) (m g d i : Nat) (S T U : HS) : Prop := (0 < U 51 8 ∧ ∃ S' : HS, S' 42 5 = U 51 8 ∧ chF m i S S') ∨ (U 51 8 = 0 ∧ ∃ (j : Nat) (S' : HS), (i ≤ j ∧ j ≤ m) ∧ ¬ (4 ≤ tK t n j ∧ tK t n j ≤ 7) ∧ mSt t n m U j ∧ cSt t n S' j ∧ S' 42 5 = 0 ∧ S' 42 4 = d ∧ (S 42 3 ≤ S' 42 3 ∧ S' 42 3 ≤ tP t n j) ∧ (T 51 10 ≤ U 51 10 ∧ U 51 10 ≤ tP t n j) ∧ (∀ q : Int, q < S 42 3 → S' 43 q = S 43 q) ∧ (∀ q : Int, q < d → S' 44 q = S 44 q) ∧ (∀ q : Int, q < T 51 10 → agr T U q) ∧ Rel g d (S' 43) U (S 42 3) (S' 42 3) (T 51 10) (U 51 10) ∧ chn m i S j S')
theorem PP.cont {g d i i2 : Nat} {S T U S2 T2 : HS} (h : PP t n m g d i2 S2 T2 U) (hc : chn m i S i2 S2) (hi : i ≤ i2) (h3 : S 42 3 ≤ S2 42 3) (h10 : T 51 10 ≤ T2 51 10) (h43 : ∀ q : Int, q < S 42 3 → S2 43 q = S 43 q) (h44 : ∀ q : Int, q < d → S2 44 q = S 44 q) (ho : ∀ q : Int, q < T 51 10 → agr T T2 q) (hR : ∀ S' : HS, (∀ q : Int, q < S2 42 3 → S' 43 q = S2 43 q) → (∀ q : Int, q < T2 51 10 → agr T2 U q) → S2 42 3 ≤ S' 42 3 → T2 51 10 ≤ U 51 10 → Rel g d (S' 43) U (S2 42 3) (S' 42 3) (T2 51 10) (U 51 10) → Rel (g + 1) d (S' 43) U (S 42 3) (S' 42 3) (T 51 10) (U 51 10)) : PP t n m (g + 1) d i S T U := by
  rcases h with ⟨h1, S', h2, hF⟩ | ⟨h0, j, S', a1, a2, a3, a4, a5, a6, a7, a8, a9, b1, b2, b3, b4⟩
  · exact Or.inl ⟨h1, S', h2, hc.trF hF⟩
  · refine Or.inr ⟨h0, j, S', ⟨by omega, a1.2⟩, a2, a3, a4, a5, a6, ⟨by omega, a7.2⟩, ⟨by omega, a8.2⟩, fun q hq => (a9 q (by omega)).trans (h43 q hq), fun q hq => (b1 q hq).trans (h44 q hq), fun q hq => ?_, hR S' a9 b2 a7.1 a8.1 b3, hc.tr b4⟩
    obtain ⟨x1, x2, x3, x4⟩ := ho q hq
    obtain ⟨y1, y2, y3, y4⟩ := b2 q (by omega)
    exact ⟨y1.trans x1, y2.trans x2, y3.trans x3, y4.trans x4⟩
theorem m_stepsF {rec : Int → HS → zO2} {p : Int} {N : Nat} {T : HS} (h : T 51 8 ≠ 0) : L_X12_readSteps_0 rec p (N + 1) T = some (0, T) := by
  rw [L_X12_readSteps_0.eq_2, m_isStepF h, zb_some, if_pos rfl]
def oX (t : Int → Int) (n : Int) (i : Nat) : Int := if tK t n i = 6 then 2 else 1
def mTail (rec : Int → HS → zO2) (v x : Int) (B : HS) : zO2 := zl (v + 1) fun x13 => zb (rec x13 B) fun _ S15 => zb (M_X12_takeSign 41 S15) fun _ S17 => zb (M_X12_takeSign 59 S17) fun _ S19 => zg ((0 : Int) ≤ x ∧ x < 1100) <| zs (up S19 60 x (S19 51 10)) fun S21 => some (0, S21)
theorem m_tk40 {T : HS} {j : Nat} (h : mSt t n m T j) (hm : tP t n m = n) (hm1 : m ≤ 1000) (hn : 0 ≤ n ∧ n ≤ 1000) (h0 : T 51 8 = 0) : ∃ B : HS, M_X12_takeSign 40 T = some (0, B) ∧ (oG t n j ≠ 0 → B 51 8 = oG t n j) ∧ (oG t n j = 0 → B = up T 51 7 (j + 1 : Nat) ∧ mSt t n m B (j + 1) ∧ B 51 8 = 0) := by
  refine ⟨_, (m_sign h hm1 hn h0).1, ?_⟩
  unfold oG
  by_cases g : tK t n j = 9
  · rw [if_pos g, if_pos g]
    have i1 := tK_m hm h.2.2.2 (show tK t n j ≠ 12 by omega)
    exact ⟨fun z => absurd rfl z, fun _ => ⟨rfl, h.at i1, by rw [up_same, if_neg (by decide)]; exact h0⟩⟩
  · rw [if_neg g, if_neg g, up_eq]
    have pb := tP_b (t := t) (i := j) hn
    exact ⟨fun _ => rfl, fun z => by omega⟩
theorem m_open {rec : Int → HS → zO2} {v t0 x : Int} {T : HS} {i : Nat} (hn : 0 ≤ n ∧ n ≤ 1000) (hm : tP t n m = n) (hm1 : m ≤ 1000) (h : mSt t n m T i) (h0 : T 51 8 = 0) (hk : tK t n i = 6 ∧ t0 = 2 ∨ tK t n i = 7 ∧ t0 = 3) (hx : T 51 10 = x) (hx0 : 0 ≤ x ∧ x ≤ tP t n i) : ∃ B : HS, J_X12_readBlock_25 rec v t0 T = mTail rec v x B ∧ (oF t n i ≠ 0 → B 51 8 = oF t n i) ∧ (oF t n i = 0 → mSt t n m B (oE t n i) ∧ B 51 8 = 0 ∧ B 51 10 = x + oX t n i ∧ B 51 10 ≤ tP t n (oE t n i) ∧ (∀ q : Int, q < x → agr T B q) ∧ B 57 x = t0 ∧ (tK t n i = 6 → B 58 x = tV t n (i + 1) ∧ B 58 (x + 1) = gAcr (tK t n (i + 2)) * tV t n (i + 3) ∧ B 59 (x + 1) = gDwn (tK t n (i + 2)) * tV t n (i + 3))) := by
  obtain ⟨k1, k2, k3, k4, k5⟩ := h.k hm1
  have i1 := tK_m hm k2 (show tK t n i ≠ 12 by omega)
  have p1 := (tP_next (t := t) (i := i) hn).2.1 (by omega) (by omega)
  have p1' := (tP_next (t := t) (i := i) hn).2.2.1 (by omega)
  have b1 := tP_b (t := t) (i := i + 1) hn
  have ej : ((i + 1 : Nat) : Int) = (i : Int) + 1 := rfl
  obtain ⟨r, A, eA, rfl, a1, a2, fA⟩ := m_emit (a := t0) (b := 0) (c := 0) (T := T) (by omega)
  unfold J_X12_readBlock_25
  rw [eA, zb_some, hx]
  rw [hx] at a1 a2
  have A7 : A 51 7 = i := (fA 51 7 (by decide) (by decide)).trans k1
  have A8 : A 51 8 = 0 := (fA 51 8 (by decide) (by decide)).trans h0
  have hA := h.fr (zFr.mono (by decide) (by decide) fA)
  have st := hA.at (j := i + 1) i1
  rw [A7, zl_in (by omega), zs_in, zg_in (by omega), ← ej]
  have B8 : up A 51 7 ((i + 1 : Nat) : Int) 51 8 = 0 := by rw [up_same, if_neg (by decide)]; exact A8
  have B10 : up A 51 7 ((i + 1 : Nat) : Int) 51 10 = x + 1 := by rw [up_same, if_neg (by decide)]; exact a1
  have cB : ∀ k : Nat, k ≠ 51 → up A 51 7 ((i + 1 : Nat) : Int) k = A k := fun k hk => by
    funext q
    rw [up_cell _ hk]
  have e57 : up A 51 7 ((i + 1 : Nat) : Int) 57 x = t0 := by rw [cB 57 (by decide), (a2 x).1, if_pos rfl]
  rw [e57]
  generalize up A 51 7 ((i + 1 : Nat) : Int) = B at *
  have low : ∀ q : Int, q < x → agr T B q := by
    intro q hq
    obtain ⟨y1, y2, y3, y4⟩ := a2 q
    rw [if_neg (by omega)] at y1 y2 y3 y4
    unfold agr
    rw [cB 57 (by decide), cB 58 (by decide), cB 59 (by decide), cB 60 (by decide)]
    exact ⟨y1, y2, y3, y4⟩
  rcases hk with ⟨k6, rfl⟩ | ⟨k7, rfl⟩
  · rw [if_pos rfl, m_num st hm1 hn B8]
    have eE : oE t n i = i + 5 := by
      unfold oE
      rw [if_pos k6]
    have eX : oX t n i = 2 := by
      unfold oX
      rw [if_pos k6]
    have f1r := fN_r (t := t) (lo := 1) (hi := 9) (i := i + 1) hn
    have go : ∀ (C : HS) (v2 : Int), C 51 10 = x + 1 → 0 < C 51 8 → oF t n i = C 51 8 → ∃ D : HS, (zg ((0 : Int) ≤ x ∧ x < 1100) <| zs (up C 58 x v2) fun S25 => zb (M_X12_readWay S25) fun _ S27 => zb (M_X12_emit 4 (S27 51 15) (S27 51 16) S27) fun r28 S29 => J_X12_readBlock_82 rec v x S29) = mTail rec v x D ∧ (oF t n i ≠ 0 → D 51 8 = oF t n i) ∧ (oF t n i = 0 → mSt t n m D (oE t n i) ∧ D 51 8 = 0 ∧ D 51 10 = x + oX t n i ∧ D 51 10 ≤ tP t n (oE t n i) ∧ (∀ q : Int, q < x → agr T D q) ∧ D 57 x = 2 ∧ (tK t n i = 6 → D 58 x = tV t n (i + 1) ∧ D 58 (x + 1) = gAcr (tK t n (i + 2)) * tV t n (i + 3) ∧ D 59 (x + 1) = gDwn (tK t n (i + 2)) * tV t n (i + 3))) := by
      intro C v2 c10 c8 eF
      have d8 : up C 58 x v2 51 8 = C 51 8 := by rw [up_cell _ (by decide)]
      have d10 : up C 58 x v2 51 10 = x + 1 := by rw [up_cell _ (by decide), c10]
      rw [zg_in (by omega), zs_in, m_wayRF (by omega), zb_some]
      obtain ⟨r, E, eE', -, e1, e2, fE⟩ := m_emit (a := 4) (b := up C 58 x v2 51 15) (c := up C 58 x v2 51 16) (T := up C 58 x v2) (by omega)
      have E8 : E 51 8 = C 51 8 := (fE 51 8 (by decide) (by decide)).trans d8
      rw [eE', zb_some]
      unfold J_X12_readBlock_82
      rw [m_takeSignF (by omega), zb_some]
      exact ⟨E, rfl, fun _ => E8.trans eF.symm, fun z => by omega⟩
    by_cases f1 : fN t n 1 9 (i + 1) = 0
    · have k8 := f1r.2 f1
      have p2 : tP t n (i + 1) + 1 ≤ tP t n (i + 2) ∧ tP t n (i + 1) < n := (tP_next (t := t) (i := i + 1) hn).2.2.1 (by omega)
      have b2 := tP_b (t := t) (i := i + 2) hn
      have i2 := tK_m hm (show i + 1 ≤ m by omega) (show tK t n (i + 1) ≠ 12 by omega)
      rw [if_pos f1, zb_some]
      have st2 : mSt t n m (up B 51 7 ((i + 1 + 1 : Nat) : Int)) (i + 2) := st.at (j := i + 1 + 1) i2
      rw [zg_in (by omega), zs_in]
      have st3 : mSt t n m (up (up B 51 7 ((i + 1 + 1 : Nat) : Int)) 58 x (tV t n (i + 1))) (i + 2) := st2.fr (zfr_up zFr.rf (by decide))
      have c8 : up (up B 51 7 ((i + 1 + 1 : Nat) : Int)) 58 x (tV t n (i + 1)) 51 8 = 0 := by rw [up_cell _ (by decide), up_same, if_neg (by decide)]; exact B8
      have c10 : up (up B 51 7 ((i + 1 + 1 : Nat) : Int)) 58 x (tV t n (i + 1)) 51 10 = x + 1 := by rw [up_cell _ (by decide), up_same, if_neg (by decide)]; exact B10
      have c58 : ∀ q : Int, up (up B 51 7 ((i + 1 + 1 : Nat) : Int)) 58 x (tV t n (i + 1)) 58 q = if q = x then tV t n (i + 1) else B 58 q := fun q => by rw [up_same, up_cell _ (by decide)]
      have cO : ∀ k : Nat, k ≠ 51 → k ≠ 58 → up (up B 51 7 ((i + 1 + 1 : Nat) : Int)) 58 x (tV t n (i + 1)) k = B k := fun k hk hk2 => by
        funext q
        rw [up_cell _ hk2, up_cell _ hk]
      generalize up (up B 51 7 ((i + 1 + 1 : Nat) : Int)) 58 x (tV t n (i + 1)) = C at *
      obtain ⟨r, D, eD, dF, dO, fD⟩ := m_way st3 hm hm1 hn c8
      rw [eD, zb_some]
      have d10 : D 51 10 = x + 1 := (fD 51 10 (by decide) (by decide)).trans c10
      have cD : ∀ k : Nat, k ≠ 51 → D k = C k := fun k hk => fD.cell k (by simp) (by simp; omega)
      obtain ⟨r', E, eE', -, e1, e2, fE⟩ := m_emit (a := 4) (b := D 51 15) (c := D 51 16) (T := D) (by omega)
      rw [eE', zb_some, d10] at *
      have E8 : E 51 8 = D 51 8 := fE 51 8 (by decide) (by decide)
      unfold J_X12_readBlock_82
      by_cases f2 : fW t n (i + 2) = 0
      · have eF : oF t n i = oG t n (i + 4) := by
          unfold oF
          rw [if_pos k6, if_neg (fun z => z f1), if_neg (fun z => z f2)]
        obtain ⟨d1, d2, d3, d4⟩ := dO f2
        have wf : tK t n (i + 2) ≤ 3 ∧ 0 ≤ tK t n (i + 2) ∧ tK t n (i + 3) = 8 ∧ 0 ≤ tV t n (i + 3) ∧ tV t n (i + 3) ≤ 16 := fW_0 hn f2
        have p3 : tP t n (i + 2) + 2 ≤ tP t n (i + 3) := (tP_next (t := t) (i := i + 2) hn).1 wf.1
        have p4 : tP t n (i + 3) + 1 ≤ tP t n (i + 4) ∧ tP t n (i + 3) < n := (tP_next (t := t) (i := i + 3) hn).2.2.1 (by have := wf.2.2.1; omega)
        have st4 : mSt t n m E (i + 4) := d1.fr (zFr.mono (by decide) (by decide) fE)
        obtain ⟨G, eG, g1, g2⟩ := m_tk40 st4 hm hm1 hn (E8.trans d2)
        rw [eG, zb_some]
        refine ⟨G, rfl, ?_, ?_⟩
        · rw [eF]
          exact g1
        · rw [eF, eE, eX]
          intro z
          obtain ⟨rfl, z2, z3⟩ := g2 z
          have k9 := (oG_r hn).2 z
          have p5 : tP t n (i + 4) + 1 ≤ tP t n (i + 5) ∧ tP t n (i + 4) < n := (tP_next (t := t) (i := i + 4) hn).2.2.1 (by omega)
          have G10 : up E 51 7 ((i + 4 + 1 : Nat) : Int) 51 10 = x + 2 := by
            rw [up_same, if_neg (by decide), e1]
            omega
          have cG : ∀ k : Nat, k ≠ 51 → ∀ q : Int, up E 51 7 ((i + 4 + 1 : Nat) : Int) k q = E k q := fun k hk q => by rw [up_cell _ hk]
          refine ⟨z2, z3, G10, by omega, fun q hq => ?_, ?_, fun _ => ⟨?_, ?_, ?_⟩⟩
          · obtain ⟨l1, l2, l3, l4⟩ := low q hq
            obtain ⟨y1, y2, y3, y4⟩ := e2 q
            rw [if_neg (by omega), cD _ (by decide)] at y1 y2 y3 y4
            rw [cO _ (by decide) (by decide)] at y1 y3 y4
            rw [c58, if_neg (by omega)] at y2
            refine ⟨?_, ?_, ?_, ?_⟩
            · rw [cG _ (by decide)]
              exact y1.trans l1
            · rw [cG _ (by decide)]
              exact y2.trans l2
            · rw [cG _ (by decide)]
              exact y3.trans l3
            · rw [cG _ (by decide)]
              exact y4.trans l4
          · rw [cG _ (by decide), (e2 x).1, if_neg (by omega), cD _ (by decide), cO _ (by decide) (by decide)]
            exact e57
          · rw [cG _ (by decide), (e2 x).2.1, if_neg (by omega), cD _ (by decide), c58, if_pos rfl]
          · rw [cG _ (by decide), (e2 (x + 1)).2.1, if_pos rfl]
            exact d3
          · rw [cG _ (by decide), (e2 (x + 1)).2.2.1, if_pos rfl]
            exact d4
      · have eF : oF t n i = fW t n (i + 2) := by
          unfold oF
          rw [if_pos k6, if_neg (fun z => z f1), if_pos f2]
        have d8 := dF f2
        have e8 : E 51 8 = fW t n (i + 2) := E8.trans d8
        rw [m_takeSignF (by rw [e8]; exact f2), zb_some]
        exact ⟨E, rfl, fun _ => e8.trans eF.symm, fun z => absurd (eF.symm.trans z) f2⟩
    · have eF : oF t n i = fN t n 1 9 (i + 1) := by
        unfold oF
        rw [if_pos k6, if_pos f1]
      rw [if_neg f1, zb_some]
      refine go _ 0 ?_ ?_ ?_
      · rw [up_same, if_neg (by decide)]
        exact B10
      · rw [up_eq]
        have := f1r.1
        omega
      · rw [up_eq]
        exact eF
  · rw [if_neg (by decide)]
    have eF : oF t n i = oG t n (i + 1) := by
      unfold oF
      rw [if_neg (by omega)]
    have eE : oE t n i = i + 2 := by
      unfold oE
      rw [if_neg (by omega)]
    have eX : oX t n i = 1 := by
      unfold oX
      rw [if_neg (by omega)]
    obtain ⟨G, eG, g1, g2⟩ := m_tk40 st hm hm1 hn B8
    unfold J_X12_readBlock_82
    rw [eG, zb_some]
    refine ⟨G, rfl, ?_, ?_⟩
    · rw [eF]
      exact g1
    · rw [eF, eE, eX]
      intro z
      obtain ⟨rfl, z2, z3⟩ := g2 z
      have k9 := (oG_r hn).2 z
      have p5 : tP t n (i + 1) + 1 ≤ tP t n (i + 2) ∧ tP t n (i + 1) < n := (tP_next (t := t) (i := i + 1) hn).2.2.1 (by omega)
      have G10 : up B 51 7 ((i + 1 + 1 : Nat) : Int) 51 10 = x + 1 := by
        rw [up_same, if_neg (by decide)]
        exact B10
      have cG : ∀ k : Nat, k ≠ 51 → ∀ q : Int, up B 51 7 ((i + 1 + 1 : Nat) : Int) k q = B k q := fun k hk q => by rw [up_cell _ hk]
      refine ⟨z2, z3, G10, by omega, fun q hq => ?_, ?_, fun z => by omega⟩
      · unfold agr
        rw [cG _ (by decide), cG _ (by decide), cG _ (by decide), cG _ (by decide)]
        exact low q hq
      · rw [cG _ (by decide)]
        exact e57
end PA
