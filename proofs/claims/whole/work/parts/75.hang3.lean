/-! hangs -/
def gAl (S : HS) (r : Int) : Int := min (min (min 2000 (gVl (gHc S r 0) 3)) (gVl (gHc S r 1) 3)) (gVl (gHc S r 2) 3)
def gTi (S : HS) (r : Int) : Nat → Int
  | 0 => 2000
  | n + 1 => if S 14 n = S 14 r then min (gTi S r n) (gVl (gHc S n 3) 9) else gTi S r n
def gHg (S : HS) (r : Int) : Int := if S 14 r = -1 then gAl S r else gTi S r (S 7 11).toNat
def gHO (S : HS) : Prop := ∀ r s : Int, 0 ≤ r → r < S 7 11 → 0 ≤ s → s ≤ 3 → gOK (gHc S r s) 3 ∧ gOK (gHc S r s) 9
theorem gTi_n {S : HS} {r v : Int} (v0 : 0 ≤ v) : gTi S r (v + 1).toNat = if S 14 v = S 14 r then min (gTi S r v.toNat) (gVl (gHc S v 3) 9) else gTi S r v.toNat := by
  rw [show (v + 1).toNat = v.toNat + 1 by omega, gTi, Int.toNat_of_nonneg v0]
theorem gOK.r {C : Int → Int} {w : Int} (h : gOK C w) : 0 ≤ gVl C w ∧ gVl C w ≤ 2000 := by
  rcases h with h | h
  · exact h.2
  · rw [h.2]
    omega
section H3
variable {S : HS}
theorem gHO_of (hI : iSum S) : gHO S := by
  intro r s r0 r1 s0 s3
  obtain ⟨-, -, -, -, -, h3⟩ := e_reach (w := 3) hI r0 r1 ⟨s0, s3⟩ ⟨by decide, by decide⟩
  obtain ⟨-, -, -, -, -, h9⟩ := e_reach (w := 9) hI r0 r1 ⟨s0, s3⟩ ⟨by decide, by decide⟩
  exact ⟨h3, h9⟩
theorem e_hang (hI : iSum S) {r : Int} (r0 : 0 ≤ r) (r1 : r < S 7 11) : zP (M_X0_hang r S) (fun v T => v = gHg S r ∧ rSame [28, 32] S T) := by
  have hR := hI.2.2.2.2.1.c
  unfold M_X0_hang M_X6_isTied
  rw [e_knotWith hR, zb_some, if_pos (show 0 ≤ r ∧ r < S 7 11 from ⟨r0, r1⟩)]
  by_cases g : S 14 r = -1
  · rw [if_pos g, zb_some, if_pos rfl]
    refine zloop2 (b := 3) (fun a s T => (0 ≤ s ∧ s ≤ 3) ∧ rSame [28, 32] S T ∧ a = if s = 0 then 2000 else if s = 1 then min 2000 (gVl (gHc S r 0) 3) else if s = 2 then min (min 2000 (gVl (gHc S r 0) 3)) (gVl (gHc S r 1) 3) else gAl S r) (fun n a s T hJ hs => ?_) (fun n a s T hJ hs ih => ?_) _ _ _ _ ⟨⟨Int.le_refl _, by decide⟩, fun _ _ => rfl, by rw [if_pos rfl]⟩ (zbig (by decide))
    · obtain ⟨x, b, e⟩ := hJ
      rw [if_neg (by omega), if_neg (by omega), if_neg (by omega)] at e
      rw [L_X0_hang_17.eq_2, if_pos hs, zP_ret, e]
      exact ⟨by unfold gHg; rw [if_pos g], b⟩
    · obtain ⟨x, b, e⟩ := hJ
      have IT : iSum T := rSame.all hI b (by decide)
      have t7 : T 7 = S 7 := b 7 (by decide)
      rw [L_X0_hang_17.eq_2, if_neg (by omega), zP_zb]
      refine zP_mono (e_reach (S := T) (w := 3) IT r0 (by rw [t7]; exact r1) ⟨x.1, x.2⟩ ⟨by decide, by decide⟩) (fun v U hU => ?_)
      obtain ⟨u1, u2, -⟩ := hU
      rw [gHc_28 b] at u2
      rw [zl_in (by omega)]
      refine ih _ _ ⟨by omega, b.trans u1, ?_⟩
      have s3 : s = 0 ∨ s = 1 ∨ s = 2 := by omega
      rcases s3 with rfl | rfl | rfl
      · rw [if_pos rfl] at e
        rw [if_neg (by decide), if_pos (by decide), e, u2]
      · rw [if_neg (by decide), if_pos rfl] at e
        rw [if_neg (by decide), if_neg (by decide), if_pos (by decide), e, u2]
      · rw [if_neg (by decide), if_neg (by decide), if_pos rfl] at e
        rw [if_neg (by decide), if_neg (by decide), if_neg (by decide), e, u2]
        rfl
  · rw [if_neg g, zb_some, if_neg (by decide)]
    refine zloop2 (b := S 7 11) (fun a v T => (0 ≤ v ∧ v ≤ S 7 11) ∧ rSame [28, 32] S T ∧ a = gTi S r v.toNat) (fun n a v T hJ hv => ?_) (fun n a v T hJ hv ih => ?_) _ _ _ _ ⟨⟨Int.le_refl _, by omega⟩, fun _ _ => rfl, rfl⟩ (zbig (by have := hR.1; omega))
    · obtain ⟨x, b, e⟩ := hJ
      have t7 : T 7 = S 7 := b 7 (by decide)
      have ev : v = S 7 11 := by omega
      subst ev
      rw [L_X0_hang_44.eq_2, t7, if_pos hv, zP_ret, e]
      exact ⟨by unfold gHg; rw [if_neg g], b⟩
    · obtain ⟨x, b, e⟩ := hJ
      have IT : iSum T := rSame.all hI b (by decide)
      have t7 : T 7 = S 7 := b 7 (by decide)
      have t14 : T 14 = S 14 := b 14 (by decide)
      have h24 := hR.1
      rw [L_X0_hang_44.eq_2, t7, if_neg (by omega), e_knotWith IT.2.2.2.2.1.c, zb_some, e_knotWith IT.2.2.2.2.1.c, zb_some, t7, t14, if_pos (show 0 ≤ v ∧ v < S 7 11 from ⟨x.1, hv⟩), if_pos (show 0 ≤ r ∧ r < S 7 11 from ⟨r0, r1⟩)]
      unfold J_X0_hang_87
      by_cases q : S 14 v = S 14 r
      · rw [if_pos q, zP_zb]
        refine zP_mono (e_reach (S := T) (w := 9) IT x.1 (by rw [t7]; exact hv) (by decide) ⟨by decide, by decide⟩) (fun y U hU => ?_)
        obtain ⟨u1, u2, -⟩ := hU
        rw [gHc_28 b] at u2
        rw [zl_in (by omega)]
        exact ih _ _ ⟨by omega, b.trans u1, by rw [gTi_n x.1, if_pos q, e, u2]⟩
      · rw [if_neg q, zl_in (by omega)]
        exact ih _ _ ⟨by omega, b, by rw [gTi_n x.1, if_neg q, e]⟩
theorem gL_all {k : Int} : (gL k 0 = 0 ∧ gL k 1 = 1 ∧ gL k 2 = 2) ∨ (gL k 0 = 1 ∧ gL k 1 = 0 ∧ gL k 2 = 2) ∨ (gL k 0 = 2 ∧ gL k 1 = 0 ∧ gL k 2 = 1) ∨ (gL k 0 = 2 ∧ gL k 1 = 1 ∧ gL k 2 = 0) ∨ (gL k 0 = 1 ∧ gL k 1 = 2 ∧ gL k 2 = 0) ∨ (gL k 0 = 0 ∧ gL k 1 = 2 ∧ gL k 2 = 1) := by
  have h6 : k % 6 = 0 ∨ k % 6 = 1 ∨ k % 6 = 2 ∨ k % 6 = 3 ∨ k % 6 = 4 ∨ k % 6 = 5 := by omega
  unfold gL
  rcases h6 with h | h | h | h | h | h <;> rw [h] <;> decide
/-- which strand is at a place in the end -/
theorem gL_sur {k p : Int} (hp : 0 ≤ p ∧ p ≤ 2) : ∃ s : Int, (0 ≤ s ∧ s ≤ 2) ∧ gL k s = p := by
  have p3 : p = 0 ∨ p = 1 ∨ p = 2 := by omega
  rcases gL_all (k := k) with ⟨a, b, c⟩ | ⟨a, b, c⟩ | ⟨a, b, c⟩ | ⟨a, b, c⟩ | ⟨a, b, c⟩ | ⟨a, b, c⟩ <;> rcases p3 with rfl | rfl | rfl
  all_goals first | exact ⟨0, by decide, a⟩ | exact ⟨1, by decide, b⟩ | exact ⟨2, by decide, c⟩
theorem m_hangsAlone (hI : iSum S) {r : Int} (r0 : 0 ≤ r) (r1 : r < S 7 11) : zP (M_X12_hangsAlone r S) (fun v _ => v = gAl S r) := by
  have ok := gHO_of hI
  unfold M_X12_hangsAlone
  rw [zP_zb]
  refine zP_mono (m_braids hI r0 r1) (fun _ T hT => ?_)
  have at' : ∀ p s : Int, 0 ≤ s ∧ s ≤ 2 → gL (S 10 r - 1) s = p → M_X12_greatest r p 3 T = some (gVl (gHc S r s) 3, T) := fun p s hs e => m_greatest hI r0 r1 (Or.inr ⟨hs, e.symm⟩) hT (ok r s r0 r1 hs.1 (by omega)).1
  obtain ⟨s0, h0, e0⟩ := gL_sur (k := S 10 r - 1) (p := 0) (by decide)
  obtain ⟨s1, h1, e1⟩ := gL_sur (k := S 10 r - 1) (p := 1) (by decide)
  obtain ⟨s2, h2, e2⟩ := gL_sur (k := S 10 r - 1) (p := 2) (by decide)
  rw [at' 0 s0 h0 e0, zb_some]
  refine zloop2 (b := 3) (fun a p U => (1 ≤ p ∧ p ≤ 3) ∧ U = T ∧ a = if p = 1 then gVl (gHc S r s0) 3 else if p = 2 then min (gVl (gHc S r s0) 3) (gVl (gHc S r s1) 3) else min (min (gVl (gHc S r s0) 3) (gVl (gHc S r s1) 3)) (gVl (gHc S r s2) 3)) (fun n a p U hJ hp => ?_) (fun n a p U hJ hp ih => ?_) _ _ _ _ ⟨⟨Int.le_refl _, by decide⟩, rfl, by rw [if_pos rfl]⟩ (zbig (by decide))
  · obtain ⟨x, rfl, e⟩ := hJ
    rw [if_neg (by omega), if_neg (by omega)] at e
    rw [L_X12_hangsAlone_15.eq_2, if_pos hp, zP_ret, e]
    have g0 := (ok r 0 r0 r1 (by decide) (by decide)).1.r
    have g1 := (ok r 1 r0 r1 (by decide) (by decide)).1.r
    have g2 := (ok r 2 r0 r1 (by decide) (by decide)).1.r
    have n01 : s0 ≠ s1 := fun q => by rw [q, e1] at e0; exact absurd e0 (by decide)
    have n02 : s0 ≠ s2 := fun q => by rw [q, e2] at e0; exact absurd e0 (by decide)
    have n12 : s1 ≠ s2 := fun q => by rw [q, e2] at e1; exact absurd e1 (by decide)
    have a0 : s0 = 0 ∨ s0 = 1 ∨ s0 = 2 := by omega
    have a1 : s1 = 0 ∨ s1 = 1 ∨ s1 = 2 := by omega
    have a2 : s2 = 0 ∨ s2 = 1 ∨ s2 = 2 := by omega
    unfold gAl
    rcases a0 with rfl | rfl | rfl <;> rcases a1 with rfl | rfl | rfl <;> rcases a2 with rfl | rfl | rfl
    all_goals first | omega
  · obtain ⟨x, rfl, e⟩ := hJ
    rw [L_X12_hangsAlone_15.eq_2, if_neg (by omega)]
    have p2 : p = 1 ∨ p = 2 := by omega
    rcases p2 with rfl | rfl
    · rw [if_pos rfl] at e
      rw [at' 1 s1 h1 e1, zb_some, m_least, zb_some, zl_in (by decide)]
      exact ih _ _ ⟨by decide, rfl, by rw [if_neg (by decide), if_pos (by decide), e]⟩
    · rw [if_neg (by decide), if_pos rfl] at e
      rw [at' 2 s2 h2 e2, zb_some, m_least, zb_some, zl_in (by decide)]
      exact ih _ _ ⟨by decide, rfl, by rw [if_neg (by decide), if_neg (by decide), e]⟩
theorem gHc_m {T : HS} (h : rSame [77, 78, 83, 84, 85, 86, 87, 88] S T) : gHc T = gHc S := by
  funext r s t
  unfold gHc gHk gHa gSh gRc cel
  rw [h 1 (by decide), h 8 (by decide), h 9 (by decide), h 10 (by decide), h 21 (by decide), h 23 (by decide), h 24 (by decide), h 25 (by decide), h 26 (by decide), h 27 (by decide)]
theorem m_hangsTied (hI : iSum S) {r : Int} (r0 : 0 ≤ r) (r1 : r < S 7 11) (hM : ∀ v : Int, 0 ≤ v → v < S 7 11 → S 72 v = S 14 v) : zP (L_X12_hangs_36 r zBig 2000 0 S) (fun v _ => v = gTi S r (S 7 11).toNat) := by
  have ok := gHO_of hI
  have h24 := hI.2.2.2.2.1.c.1
  have r27 := hI.2.2.2.2.1.1.1
  refine zloop2 (b := S 7 11) (fun a v T => (0 ≤ v ∧ v ≤ S 7 11) ∧ rSame [77, 78, 83, 84, 85, 86, 87, 88] S T ∧ a = gTi S r v.toNat) (fun n a v T hJ hv => ?_) (fun n a v T hJ hv ih => ?_) _ _ _ _ ⟨⟨Int.le_refl _, by omega⟩, fun _ _ => rfl, rfl⟩ (zbig (by omega))
  · obtain ⟨x, b, e⟩ := hJ
    have t27 : T 51 27 = S 7 11 := (congrFun (b 51 (by decide)) 27).trans r27
    have ev : v = S 7 11 := by omega
    rw [L_X12_hangs_36.eq_2, if_pos (by omega), zP_ret, e, ev]
  · obtain ⟨x, b, e⟩ := hJ
    have t27 : T 51 27 = S 7 11 := (congrFun (b 51 (by decide)) 27).trans r27
    have t72 : T 72 = S 72 := b 72 (by decide)
    have IT : iSum T := rSame.all hI b (by decide)
    have t7 : T 7 = S 7 := b 7 (by decide)
    have t10 : T 10 = S 10 := b 10 (by decide)
    rw [L_X12_hangs_36.eq_2, if_neg (by omega), zg_in (by omega), zg_in (by omega), t72, hM v x.1 hv, hM r r0 r1]
    unfold J_X12_hangs_77
    by_cases q : S 14 v = S 14 r
    · rw [if_pos q, zP_zb]
      refine zP_mono (m_braids IT x.1 (by rw [t7]; exact hv)) (fun _ U hU => ?_)
      rw [m_greatest (s := 3) IT x.1 (by rw [t7]; exact hv) (Or.inl ⟨rfl, rfl⟩) hU (by rw [gHc_m b]; exact (ok v 3 x.1 hv (by decide) (by decide)).2), zb_some, m_least, zb_some, zl_in (by omega), gHc_m b]
      exact ih _ _ ⟨by omega, b.trans hU.1, by rw [gTi_n x.1, if_pos q, e]⟩
    · rw [if_neg q, zl_in (by omega)]
      exact ih _ _ ⟨by omega, b, by rw [gTi_n x.1, if_neg q, e]⟩
theorem gHg_c {S T : HS} (h : core T = core S) : gHg T = gHg S := by
  have e : ∀ U : HS, gHg (core U) = gHg U := by
    intro U
    have a : ∀ r s t, gHc (core U) r s t = gHc U r s t := fun _ _ _ => rfl
    have a' : gHc (core U) = gHc U := by
      funext r s t
      exact a r s t
    have b : ∀ (r : Int) (n : Nat), gTi (core U) r n = gTi U r n := by
      intro r n
      induction n with
      | zero => rfl
      | succ n ih =>
        unfold gTi
        rw [ih, a']
        rfl
    funext r
    unfold gHg gAl
    rw [b, a']
    rfl
  rw [← e T, h, e S]
theorem ok_13 (hI : Inv S) : OK_13 Inv S := by
  intro q hq
  have iS := hI.2.s
  have iR := hI.2.2.2.2.2.1
  have h24 := iR.c.1.2.1
  refine zcall (Q1 := fun v _ => v = if 0 ≤ q ∧ q < S 7 11 then gHg S q else -1) hI (fun w => W_M_X11_hangs hq w) (fun T w => W_M_X12_hangs hq w) (by decide) (by decide) (by decide) (by decide) ?_ (fun v T hv wT iT cT => ?_)
  · unfold M_X11_hangs
    by_cases g : 0 ≤ q ∧ q < S 7 11
    · rw [e_has1 iR.c g.1 g.2, zb_some, if_neg (by decide), zP_zb]
      refine zP_mono (e_hang iS g.1 g.2) (fun v U hU => ?_)
      rw [zP_ret, if_pos g]
      exact hU.1
    · rw [e_has, zb_some, zif0 (by omega), if_pos rfl, zP_ret, if_neg g]
  · have t7 : T 7 11 = S 7 11 := congrFun (congrFun cT 7) 11
    have iU := iAll_thr iT 0
    have gh : gHg (up T 51 0 0) q = gHg S q := by
      rw [← gHg_c cT]
      exact congrFun (gHg_c (core_fr (A := []) (O := [(51, 0)]) (by decide) (by decide) (fun k i _ b => by
        rw [up_at, if_neg]
        rintro ⟨rfl, rfl⟩
        exact b (by simp)))) q
    unfold M_X12_hangs
    rw [zs_in, m_isRow, zb_some]
    have u27 : up T 51 0 0 51 27 = S 7 11 := by
      rw [← t7]
      exact iT.2.2.2.2.1.1.1
    rw [u27]
    by_cases g : 0 ≤ q ∧ q < S 7 11
    · rw [if_pos g] at hv
      have q1 : q < up T 51 0 0 7 11 := by
        show q < T 7 11
        omega
      have mk := iU.2.2.2.2.2.1.1
      have m := mk q g.1 q1
      rw [zif1 g, if_neg (by decide), zg_in (by omega), m.2.2.2.1]
      by_cases k : 0 ≤ up T 51 0 0 14 q
      · rw [if_pos k]
        refine zP_mono (m_hangsTied iU.s g.1 q1 (fun v v0 v1 => (mk v v0 v1).2.2.2.1)) (fun b U hU => ?_)
        rw [hU, hv, ← gh]
        unfold gHg
        rw [if_neg (by omega)]
      · rw [if_neg k, zP_zb]
        refine zP_mono (m_hangsAlone iU.s g.1 q1) (fun b U hU => ?_)
        rw [zP_ret, hU, hv, ← gh]
        unfold gHg
        rw [if_pos (by omega)]
    · rw [if_neg g] at hv
      rw [zif0 g, if_pos rfl, zP_ret, hv]
end H3
