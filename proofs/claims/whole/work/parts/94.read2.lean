/-! both read a program -/
section RD
variable {t t' : Int → Int} {n : Int}
theorem scn_cg {b : Int → Bool} (h : ∀ i : Int, 0 ≤ i → i < n → t' i = t i) : ∀ (f : Nat) (a : Int), 0 ≤ a → scn b t' n f a = scn b t n f a := by
  intro f
  induction f with
  | zero => exact fun _ _ => rfl
  | succ f ih =>
    intro a a0
    unfold scn
    by_cases g : a < n
    · rw [h a a0 g, ih (a + 1) (by omega)]
    · rw [if_neg (fun z => g z.1), if_neg (fun z => g z.1)]
theorem kEn_cg (h : ∀ i : Int, 0 ≤ i → i < n → t' i = t i) {p : Int} (p0 : 0 ≤ p) : kEn t' n p = kEn t n p := by
  unfold kEn
  by_cases g : n ≤ p
  · rw [if_pos g, if_pos g]
  · rw [if_neg g, if_neg g, h p p0 (by omega), scn_cg h _ _ p0, scn_cg h _ _ p0]
theorem wVa_cg {p : Int} : ∀ k : Nat, (∀ j : Nat, j < k → t' (p + j) = t (p + j)) → wVa t' p k = wVa t p k := by
  intro k
  induction k with
  | zero => exact fun _ => rfl
  | succ k ih =>
    intro h
    unfold wVa
    rw [ih (fun j hj => h j (by omega)), h k (by omega)]
theorem dVa_cg {p : Int} : ∀ k : Nat, (∀ j : Nat, j < k → t' (p + j) = t (p + j)) → dVa t' p k = dVa t p k := by
  intro k
  induction k with
  | zero => exact fun _ => rfl
  | succ k ih =>
    intro h
    unfold dVa
    rw [ih (fun j hj => h j (by omega)), h k (by omega)]
theorem kKi_cg (hn : 0 ≤ n ∧ n ≤ 1000) (h : ∀ i : Int, 0 ≤ i → i < n → t' i = t i) {p : Int} (p0 : 0 ≤ p) : kKi t' n p = kKi t n p := by
  unfold kKi
  by_cases g : n ≤ p
  · rw [if_pos g, if_pos g]
  · have r := kEn_r (t := t) (n := n) (p := p) p0 (by omega) hn.2
    rw [if_neg g, if_neg g, h p p0 (by omega), kEn_cg h p0, wVa_cg _ (fun j hj => h _ (by omega) (by omega))]
theorem kVa_cg (hn : 0 ≤ n ∧ n ≤ 1000) (h : ∀ i : Int, 0 ≤ i → i < n → t' i = t i) {p : Int} (p0 : 0 ≤ p) : kVa t' n p = kVa t n p := by
  unfold kVa
  rw [kEn_cg h p0]
  by_cases g : n ≤ p
  · have e : kEn t n p = p := by
      unfold kEn
      rw [if_pos g]
    rw [e, show (p - p).toNat = 0 by omega]
    rfl
  · have r := kEn_r (t := t) (n := n) (p := p) p0 (by omega) hn.2
    exact dVa_cg _ (fun j hj => h _ (by omega) (by omega))
theorem tP_cg (hn : 0 ≤ n ∧ n ≤ 1000) (h : ∀ i : Int, 0 ≤ i → i < n → t' i = t i) : ∀ i : Nat, tP t' n i = tP t n i := by
  intro i
  induction i with
  | zero => exact scn_cg h _ _ (Int.le_refl _)
  | succ i ih =>
    have a := tP_b (t := t) (i := i) hn
    have r := kEn_r (t := t) (n := n) (p := tP t n i) a.1 a.2 hn.2
    unfold tP
    rw [ih, kEn_cg h a.1, scn_cg h _ _ (by omega)]
theorem mTk_cg (hn : 0 ≤ n ∧ n ≤ 1000) (h : ∀ i : Int, 0 ≤ i → i < n → t' i = t i) {so va p : Int} (p0 : 0 ≤ p) (k : mTk t' n so va p) : mTk t n so va p := by
  unfold mTk at k ⊢
  rw [kKi_cg hn h p0, kVa_cg hn h p0] at k
  exact k
abbrev rdA : List Nat := [53, 54, 55, 57, 58, 59, 60]
abbrev rdO : List (Nat × Int) := [(51, 0), (51, 2), (51, 3), (51, 7), (51, 8), (51, 10), (51, 15), (51, 16)]
theorem both_read {S T : HS} (hT : tOk S) (h2 : T 51 2 = S 40 1) (h52 : ∀ i : Int, 0 ≤ i → i < S 40 1 → T 52 i = S 41 i) (hw : iWords T) (w : WR shF T) : ∃ (S1 T1 : HS) (g : Nat), M_X7_read S = some (S1 42 5, S1) ∧ M_X12_draw T = J_X12_draw_43 T1 ∧ T1 51 8 = S1 42 5 ∧ 0 ≤ S1 42 5 ∧ T1 51 2 = 0 ∧ (S1 42 5 = 0 → Rel g 0 (S1 43) T1 0 (S1 42 3) 0 (T1 51 10) ∧ (0 ≤ S1 42 3 ∧ S1 42 3 ≤ 1000) ∧ (0 ≤ T1 51 10 ∧ T1 51 10 ≤ 1000) ∧ g ≤ 1002) ∧ WR shF T1 ∧ zFr rdA rdO T T1 := by
  have hn : 0 ≤ S 40 1 ∧ S 40 1 ≤ 1000 := hT.1
  -- the class
  generalize hS0 : up (up (up S 42 3 0) 42 4 0) 42 5 0 = S0
  have fS0 : zFr [] [(42, 3), (42, 4), (42, 5)] S S0 := by
    rw [← hS0]
    exact zfr_upO (zfr_upO (zfr_upO zFr.rf (by decide)) (by decide)) (by decide)
  have u41 : up S0 40 2 0 41 = S 41 := by
    funext q
    rw [up_cell _ (by decide), fS0.cell 41 (by decide) (by decide)]
  have u401 : up S0 40 2 0 40 1 = S 40 1 := by rw [up_same, if_neg (by decide), fS0 40 1 (by decide) (by decide)]
  obtain ⟨rn, A, eN, aN, fN'⟩ := e_next (S := up S0 40 2 0) (by
    unfold tOk
    rw [u401, u41]
    exact hT) (by
    rw [up_eq, u401]
    omega)
  have eR : M_X9_rewind S0 = some (0, A) := by
    unfold M_X9_rewind
    rw [zs_in, eN, zb_some]
  have a41 : A 41 = S 41 := (fN'.cell 41 (by decide) (by decide)).trans u41
  have a401 : A 40 1 = S 40 1 := (fN' 40 1 (by decide) (by decide)).trans u401
  have cA : cSt (S 41) (S 40 1) A 0 := by
    refine ⟨?_, a41, a401, ?_⟩
    · unfold tOk
      rw [a41, a401]
      exact hT
    · rw [u41, u401, up_eq] at aN
      exact aN
  have A5 : A 42 5 = 0 := by rw [fN' 42 5 (by decide) (by decide), up_cell _ (by decide), ← hS0, up_eq]
  have A4 : A 42 4 = 0 := by rw [fN' 42 4 (by decide) (by decide), up_cell _ (by decide), ← hS0, up_same, if_neg (by decide), up_eq]
  have A3 : A 42 3 = 0 := by rw [fN' 42 3 (by decide) (by decide), up_cell _ (by decide), ← hS0, up_same, if_neg (by decide), up_same, if_neg (by decide), up_eq]
  have ec : M_X7_read S = L_X7_read_24 (fun S34 => J_X7_read_155 S34) zBig 0 A := by
    unfold M_X7_read
    rw [zs_in, zs_in, zs_in, hS0, eR, zb_some]
  -- the reference
  have w0 : WR shF (up T 51 0 0) := w.up sw_51 (zrl rfl)
  have v2 : up T 51 0 0 51 2 = S 40 1 := by rw [up_same, if_neg (by decide), h2]
  have v52 : up T 51 0 0 52 = T 52 := by
    funext q
    rw [up_cell _ (by decide)]
  obtain ⟨rc, B, eB, hB⟩ := m_cutAll (S := up T 51 0 0) (by rw [v2]; exact hn)
  rw [v2, v52] at hB
  obtain ⟨⟨m, hm1, hm, mS, mE, mK⟩, b7, b8, b2, fB⟩ := hB
  have wB := (W_M_X12_cutAll w0 rc B eB).2.1
  have hm' : tP (S 41) (S 40 1) m = S 40 1 := by rw [← tP_cg hn h52]; exact hm
  generalize hC : up B 51 10 0 = C
  have wC : WR shF C := by
    rw [← hC]
    exact wB.up sw_51 (zrl rfl)
  have Ck : ∀ k : Nat, k ≠ 51 → C k = B k := fun k hk => by
    funext q
    rw [← hC, up_cell _ hk]
  have C51 : ∀ i : Int, i ≠ 10 → C 51 i = B 51 i := fun i hi => by rw [← hC, up_same, if_neg hi]
  have C10 : C 51 10 = 0 := by rw [← hC, up_eq]
  have fC : zFr rdA rdO T C := by
    rw [← hC]
    exact zfr_upO (zFr.trans (zfr_upO zFr.rf (by decide)) (zFr.mono (by decide) (by decide) fB)) (by decide)
  have hmC : mSt (S 41) (S 40 1) m C 0 := by
    refine ⟨fun j hj => ?_, ?_, by rw [C51 7 (by decide)]; exact b7, Nat.zero_le _⟩
    · rw [Ck 53 (by decide), Ck 54 (by decide), Ck 55 (by decide)]
      have pb := tP_b (t := S 41) (i := j) hn
      by_cases e : j = m
      · subst e
        rw [hm']
        exact ⟨mE, mTk_cg hn h52 (by omega) mK⟩
      · obtain ⟨-, y1, y2⟩ := mS j (by omega)
        rw [tP_cg hn h52] at y1 y2
        exact ⟨y1, mTk_cg hn h52 pb.1 y2⟩
    · unfold iWords
      rw [fC.cell 56 (by decide) (by decide)]
      exact hw
  have bz : zBig = 4294967296 := rfl
  have C8 : C 51 8 = 0 := by rw [C51 8 (by decide)]; exact b8
  have p0 := tP_b (t := S 41) (i := 0) hn
  obtain ⟨ru, U, eU, hU⟩ := parse hn hm' hm1 (m + 1) 0 0 A C zBig (Nat.zero_le _) (by omega) (by omega) (Nat.zero_le _) cA A5 A4 ⟨by omega, by omega⟩ hmC C8 ⟨by omega, by omega⟩ (by omega)
  have eU' : M_X12_readSteps 6 0 C = some (ru, U) := eU
  obtain ⟨-, wU, fU⟩ := W_M_X12_readSteps 6 (zrl rfl) wC ru U eU'
  have fTU : zFr rdA rdO T U := zFr.trans fC (zFr.mono (by decide) (by decide) fU)
  have U2 : U 51 2 = 0 := by rw [fU 51 2 (by decide) (by decide), C51 2 (by decide)]; exact b2
  have em : ∀ V : HS, (zg ((0 : Int) ≤ U 51 7 ∧ U 51 7 < 1002) <| if U 53 (U 51 7) = 0 then J_X12_draw_43 U else zb (M_X12_wrong 1 U) fun _ S27 => J_X12_draw_43 S27) = J_X12_draw_43 V → U 51 8 = 0 → M_X12_draw T = J_X12_draw_43 V := by
    intro V hV h8
    unfold M_X12_draw
    rw [zs_in, eB, zb_some, zs_in, hC, eU', zb_some, if_pos h8]
    exact hV
  rcases hU with ⟨h1, S', h2', hF⟩ | ⟨h0, j, S', a1, a2, a3, a4, a5, a6, a7, a8, a9, x1, x2, x3, x4⟩
  · refine ⟨S', U, m + 1, ?_, ?_, h2'.symm, by omega, U2, fun z => by omega, wU, fTU⟩
    · rw [ec, hF _ _ _ (Int.le_refl _) (Int.le_refl _) (by omega)]
      rfl
    · unfold M_X12_draw
      rw [zs_in, eB, zb_some, zs_in, hC, eU', zb_some, if_neg (by omega)]
  · obtain ⟨N', v', y1, y2, y3, y4⟩ := x4 (fun S34 => J_X7_read_155 S34) zBig 0 (Int.le_refl _) (Int.le_refl _) (by omega)
    obtain ⟨N', rfl⟩ : ∃ N'', N' = N'' + 1 := ⟨N' - 1, by omega⟩
    obtain ⟨k1, k2, k3, k4, k5⟩ := a3.k hm1
    obtain ⟨q1, q2, -, -⟩ := a4.k
    have pj := tP_b (t := S 41) (i := j) hn
    have k12 := k4.2.2.2.2.2.2.2.2.2.2.2.2.2
    by_cases g : tK (S 41) (S 40 1) j = 12
    · refine ⟨S', U, m + 1, ?_, ?_, by omega, by omega, U2, fun _ => ⟨?_, ?_, ?_, by omega⟩, wU, fTU⟩
      · rw [ec, y4, L_X7_read_24.eq_2, if_neg (by omega), if_pos a5, if_neg (by omega), if_pos (by omega)]
        rfl
      · refine em U ?_ h0
        rw [zg_in k5, k1, if_pos (k12.mpr g)]
      · rw [A3, C10] at x3
        exact x3
      · omega
      · omega
    · have sp : stp S' (up S' 42 5 (1 + 16 * tP (S 41) (S 40 1) j)) := by
        by_cases g10 : tK (S 41) (S 40 1) j = 10
        · have ecl : M_X7_readClosing S' = some (0, up S' 42 5 (1 + 16 * S' 40 4)) := by
            unfold M_X7_readClosing J_X7_readClosing_15
            rw [if_pos (by omega), e_tell a5 (by decide) (by omega), zb_some]
          rw [q1] at ecl
          exact stp_close a4 a5 g10 ecl
        · exact stp_bad hn a4 a5 a2 g10 (Or.inr g)
      have cf := sp.f (m := m) a1.2 hm1 (by rw [up_eq]; omega)
      have f53 : ¬ U 53 j = 0 := fun z => g (k12.mp z)
      refine ⟨up S' 42 5 (1 + 16 * tP (S 41) (S 40 1) j), up U 51 8 (1 + 16 * tP (S 41) (S 40 1) j), m + 1, ?_, ?_, ?_, ?_, ?_, fun z => ?_, wU.up sw_51 ?_, zfr_upO fTU (by decide)⟩
      · rw [ec, y4, cf _ _ _ y2 y3 y1]
        rfl
      · refine em _ ?_ h0
        rw [zg_in k5, k1, if_neg f53, m_wrong a3 hm1 hn h0 (by decide), zb_some]
      · rw [up_eq, up_eq]
      · rw [up_eq]
        omega
      · rw [up_same, if_neg (by decide)]
        exact U2
      · rw [up_eq] at z
        omega
      · show rng _
        unfold rng
        omega
end RD
