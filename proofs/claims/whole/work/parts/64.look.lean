/-! region, taken, look -/
theorem zthrow {A : List Nat} {O : List (Nat × Int)} {B : Int → Prop} {S : HS} {m1 : zO2} {m2 : HS → zO2} {r : Int} (hI : Inv S) (e1 : m1 = some (r, S)) (hr : rng6 r) (w2 : ∀ T : HS, WR shF T → zW A O B T (m2 T)) (hA : (A.all fun k => !(cArr.contains k) && cFld.all fun q => q.1 != k) = true) (hO : (O.all fun q => !(isCor q.1 q.2)) = true) (h94 : 94 ∉ A) (hO94 : ((94 : Nat), (0 : Int)) ∉ O) (e2 : zP (m2 (zHS r S)) (fun b T => T 51 0 = zHk r ∧ (r ≠ zT → b = r))) : ∃ (r b : Int) (S0 S2 S3 : HS), m1 = some (r, S0) ∧ WR shF (zHS r S0) ∧ m2 (zHS r S0) = some (b, S2) ∧ M_X12_thrown S2 = some (zHk r, S3) ∧ (r ≠ zT → S3 94 0 = b) ∧ Inv S3 := by
  have hF : zFr [94] [] S (zHS r S) := by
    intro k i a _
    unfold zHS
    split
    · rfl
    · exact up_cell _ (by simpa using a) _ _ _
  have hW : WR shF (zHS r S) := by
    unfold zHS
    split
    · exact hI.1
    · exact hI.1.up (q := .inl (.long, 1)) (by decide +kernel) hr
  have hAll : iAll (zHS r S) := iAll_fr hI.2 (by decide) (by decide) hF
  obtain ⟨b, U, e, q1, q2⟩ := e2
  obtain ⟨-, W2, F2⟩ := w2 _ hW _ _ e
  refine ⟨r, b, S, U, U, e1, hW, e, ?_, fun k => ?_, W2, iAll_fr hAll hA hO F2⟩
  · unfold M_X12_thrown
    rw [q1]
  · rw [F2 94 0 h94 hO94, q2 k]
    unfold zHS
    rw [if_neg k, up_same, if_pos rfl]
/-- all but what marks rows -/
def iSum (S : HS) : Prop := iLen S ∧ iTape S ∧ iWords S ∧ iPart S ∧ iRow S ∧ True ∧ iAdd S ∧ iProg S ∧ iCrew S ∧ iReg S ∧ iTak S ∧ iBrd S
theorem iAll.s {S : HS} (h : iAll S) : iSum S := ⟨h.1, h.2.1, h.2.2.1, h.2.2.2.1, h.2.2.2.2.1, trivial, h.2.2.2.2.2.2⟩
theorem iSum_c {S : HS} : iSum (core S) = iSum S := rfl
theorem iSum_fr {A : List Nat} {O : List (Nat × Int)} {S T : HS} (hI : iSum S) (hA : (A.all fun k => !(cArr.contains k) && cFld.all fun q => q.1 != k) = true) (hO : (O.all fun q => !(isCor q.1 q.2)) = true) (h : zFr A O S T) : iSum T := by
  rw [← iSum_c, core_fr hA hO h, iSum_c]
  exact hI
theorem iSum_thr {S : HS} (hI : iSum S) (v : Int) : iSum (up S 51 0 v) := iSum_fr (A := []) (O := [(51, 0)]) hI (by decide) (by decide) (fun k i _ b => by
  rw [up_at, if_neg]
  rintro ⟨rfl, rfl⟩
  exact b (by simp))
section LK
variable {S : HS}
theorem tak_eq {T : HS} (hK : iTak S) (h : hasTak S T) {c : Int} (h0 : 0 ≤ c) (h1 : c < 192) : (S 2 c ≠ -1 → T 77 c = S 19 c) ∧ (S 2 c = -1 → T 77 c = -2 ∧ S 19 c = -1) := by
  obtain ⟨-, ⟨a, ha⟩, ho⟩ := h
  obtain ⟨⟨b, hb⟩, k, -⟩ := hK
  exact ⟨fun e => gTak_eq ha hb ⟨h0, h1, e⟩, fun e => ⟨ho c h0 h1 e, (k c h0 h1).1 e⟩⟩
theorem m_findTaken' {T : HS} (hI : iSum T) : zP (M_X12_findTaken T) (fun _ U => hasTak T U ∧ ∀ c : Int, 0 ≤ c → c < 192 → (T 2 c ≠ -1 → U 77 c = T 19 c) ∧ (T 2 c = -1 → U 77 c = -2 ∧ T 19 c = -1)) := by
  obtain ⟨iL, iT, iW, iP, iR, iM, iA, iG, iC, iE, iK, iB⟩ := hI
  exact zP_mono (m_findTaken iP.1 iR) (fun _ U h => ⟨h, fun c h0 h1 => tak_eq iK h h0 h1⟩)
theorem iAll_thr (hI : iAll S) (v : Int) : iAll (up S 51 0 v) := iAll_fr (A := []) (O := [(51, 0)]) hI (by decide) (by decide) (fun k i _ b => by
  rw [up_at, if_neg]
  rintro ⟨rfl, rfl⟩
  exact b (by simp))
theorem ok_5 (hI : Inv S) : OK_5 Inv S := by
  intro q1 q2 h1 h2
  obtain ⟨hW, iL, iT, iW, iP, iR, iM, iA, iG, iC, iE, iK, iB⟩ := id hI
  have h0 := gAt_r (x := q1) (y := q2)
  refine zfin (r := if 0 ≤ gAt q1 q2 ∧ gAt q1 q2 < 192 then S 18 (gAt q1 q2) else -1) hI ?_ (W_M_X12_region h1 h2 hI.1) (by decide) (by decide) ?_
  · unfold M_X11_region
    rw [e_at, zb_some, e_regionAt, zb_some]
  · unfold M_X12_region
    rw [zs_in, m_scalp, zb_some]
    have u67 : ∀ i : Int, up S 51 0 0 67 i = S 67 i := fun i => rfl
    rw [u67]
    by_cases d : 0 ≤ q1 ∧ q1 < 16 ∧ 0 ≤ q2 ∧ q2 < 12
    · have e0 := gAt_in d
      have hh := iP.1.1 (16 * q2 + q1) (by omega) (by omega)
      rw [e0, if_pos (show 0 ≤ 16 * q2 + q1 ∧ 16 * q2 + q1 < 192 by omega)]
      by_cases g : 0 ≤ S 67 (16 * q2 + q1)
      · rw [zif1 ⟨d, g⟩, if_neg (by decide), zP_zb]
        have hR : rHP (up S 51 0 0) := iP.1
        refine zP_mono (m_findRegions hR) (fun r T hT => ?_)
        rw [zg_in (by omega), zP_ret]
        exact gReg_eq (h := S 2) (p := S 4) hT.1 iE.1 (by omega) (by omega)
      · rw [zif0 (fun k => g k.2), if_pos rfl, zP_ret]
        exact (iE.1.1 _ (by omega) (by omega) (by omega)).symm
    · rw [gAt_out d, zif0 (fun k => d k.1), if_pos rfl, zP_ret, if_neg (by decide)]
theorem ok_6 (hI : Inv S) : OK_6 Inv S := by
  intro q1 q2 h1 h2
  obtain ⟨hW, iL, iT, iW, iP, iR, iM, iA, iG, iC, iE, iK, iB⟩ := id hI
  have h0 := gAt_r (x := q1) (y := q2)
  refine zfin (r := if 0 ≤ gAt q1 q2 ∧ gAt q1 q2 < 192 then S 19 (gAt q1 q2) else -1) hI ?_ (W_M_X12_taken h1 h2 hI.1) (by decide) (by decide) ?_
  · unfold M_X11_taken
    rw [e_at, zb_some, e_takerAt, zb_some]
  · unfold M_X12_taken
    rw [zs_in, m_scalp, zb_some]
    have u67 : ∀ i : Int, up S 51 0 0 67 i = S 67 i := fun i => rfl
    rw [u67]
    by_cases d : 0 ≤ q1 ∧ q1 < 16 ∧ 0 ≤ q2 ∧ q2 < 12
    · have e0 := gAt_in d
      have hh := iP.1.1 (16 * q2 + q1) (by omega) (by omega)
      rw [e0, if_pos (show 0 ≤ 16 * q2 + q1 ∧ 16 * q2 + q1 < 192 by omega)]
      by_cases g : 0 ≤ S 67 (16 * q2 + q1)
      · rw [zif1 ⟨d, g⟩, if_neg (by decide), zP_zb]
        refine zP_mono (m_findTaken' (iAll_thr hI.2 0).s) (fun r T hT => ?_)
        rw [zg_in (by omega), zP_ret]
        exact (hT.2 _ (by omega) (by omega)).1 (show S 2 _ ≠ -1 by omega)
      · rw [zif0 (fun k => g k.2), if_pos rfl, zP_ret]
        exact ((iK.2.1 _ (by omega) (by omega)).1 (by omega)).symm
    · rw [gAt_out d, zif0 (fun k => d k.1), if_pos rfl, zP_ret, if_neg (by decide)]
/-- what a cell is -/
def gSrt (h pl tk : Int → Int) (c : Int) : Int := if h c = -1 then 0 else if pl c ≠ -1 then 1 else if tk c = -2 then 2 else 3
def gUnl (h pl tk : Int → Int) (c : Int) : Prop := gSrt h pl tk c ≠ gSrt h pl tk (c - 2 * (c % 16) + 16 - 1)
theorem e_isUnlike {c : Int} (hI : iAll S) (h0 : 0 ≤ c) (h1 : c < 192) : ∃ v : Int, M_X11_isUnlike c S = some (v, S) ∧ (v = 0 ∨ v = 1) ∧ (v = 1 ↔ gUnl (S 2) (S 11) (S 19) c) := by
  obtain ⟨iL, iT, iW, iP, iR, iM, iA, iG, iC, iE, iK, iB⟩ := hI
  have c0 := iR.c
  have cs : ∀ e : Int, 0 ≤ e → e < 192 → (S 2 e = -1 → S 11 e = -1 ∧ S 19 e = -1) ∧ (S 11 e ≠ -1 → S 19 e ≠ -2) := by
    intro e e0 e1
    rcases c0.2.2.2 e e0 e1 with x | ⟨r, k, x1, x2, x3, x4, x5, x6⟩
    · exact ⟨fun g => ⟨x, (iK.2.1 e e0 e1).1 g⟩, fun g => absurd x g⟩
    · have y := (c0.2.2.1 r k x1 x2 x3 x4).2.2.2
      rw [x6] at y
      obtain ⟨a, ha⟩ := iK.1
      have := ((ha e ⟨e0, e1, by omega⟩).1 (by omega)).2
      exact ⟨fun g => by omega, fun _ => by omega⟩
  generalize hm : c - 2 * (c % 16) + 16 - 1 = m
  have m0 : 0 ≤ m ∧ m < 192 := by omega
  have x1 := cs c h0 h1
  have x2 := cs m m0.1 m0.2
  unfold M_X11_isUnlike J_X11_isUnlike_50 J_X11_isUnlike_67 J_X11_isUnlike_88 J_X11_isUnlike_106 J_X11_isUnlike_109
  rw [zg_in (by omega), zl_in (by omega), hm, e_scalp, zb_some, e_scalp, zb_some]
  simp only [e_placeAt, e_takerAt, zb_some, h0, h1, m0.1, m0.2, true_and, and_true, if_true, and_self]
  unfold gUnl gSrt
  rw [hm]
  by_cases a1 : S 2 c = -1 <;> by_cases a2 : S 2 m = -1 <;> by_cases a3 : S 11 c = -1 <;> by_cases a4 : S 11 m = -1 <;> by_cases a5 : S 19 c = -2 <;> by_cases a6 : S 19 m = -2
  all_goals first | (exfalso; omega) | simp [a1, a2, a3, a4, a5, a6]
theorem m_sortOf {T : HS} {c : Int} (h0 : 0 ≤ c) (h1 : c < 192) (h2 : T 67 c = S 2 c ∧ -1 ≤ S 2 c) (h3 : (S 11 c = -1 ∧ T 68 c = -1) ∨ (0 ≤ S 11 c ∧ 0 ≤ T 68 c)) (h4 : S 2 c ≠ -1 → T 77 c = S 19 c) : M_X12_sortOf c T = some (gSrt (S 2) (S 11) (S 19) c, T) := by
  unfold M_X12_sortOf gSrt
  rw [zg_in ⟨h0, h1⟩, h2.1]
  by_cases a : S 2 c = -1
  · rw [if_neg (by omega), if_pos a]
  · rw [if_pos (by omega), if_neg a, zg_in ⟨h0, h1⟩]
    by_cases b : S 11 c = -1
    · rw [if_pos (by omega), if_neg (show ¬ S 11 c ≠ -1 from fun k => k b), zg_in ⟨h0, h1⟩, h4 a]
      split <;> rfl
    · rw [if_neg (by omega), if_pos b]
theorem m_isUnlike {T : HS} {c : Int} (hI : iAll S) (h67 : T 67 = S 67) (h68 : T 68 = S 68) (hT : ∀ c : Int, 0 ≤ c → c < 192 → S 2 c ≠ -1 → T 77 c = S 19 c) (h0 : 0 ≤ c) (h1 : c < 192) : ∃ v : Int, M_X12_isUnlike c T = some (v, T) ∧ (v = 0 ∨ v = 1) ∧ (v = 1 ↔ gUnl (S 2) (S 11) (S 19) c) := by
  obtain ⟨iL, iT, iW, iP, iR, iM, iA, iG, iC, iE, iK, iB⟩ := hI
  have m0 := iR.m
  have so : ∀ e : Int, 0 ≤ e → e < 192 → M_X12_sortOf e T = some (gSrt (S 2) (S 11) (S 19) e, T) := by
    intro e e0 e1
    have hh := iP.1.1 e e0 e1
    refine m_sortOf e0 e1 (by rw [h67]; omega) ?_ (hT e e0 e1)
    rw [h68]
    rcases m0.2.2.2 e e0 e1 with x | x
    · exact Or.inl x
    · exact Or.inr (by omega)
  unfold M_X12_isUnlike gUnl
  rw [so c h0 h1, zb_some, zg_in (by omega), zg_in (by omega), zl_in (by omega), show c / 16 * 16 + 15 - c % 16 = c - 2 * (c % 16) + 16 - 1 by omega, so _ (by omega) (by omega), zb_some]
  by_cases g : gSrt (S 2) (S 11) (S 19) c = gSrt (S 2) (S 11) (S 19) (c - 2 * (c % 16) + 16 - 1)
  · rw [if_pos g]
    exact ⟨0, rfl, Or.inl rfl, fun k => absurd k (by decide), fun k => absurd g k⟩
  · rw [if_neg g]
    exact ⟨1, rfl, Or.inr rfl, fun _ => g, fun _ => rfl⟩
theorem zHS_fr {r : Int} {k : Nat} {i : Int} (hk : k ≠ 94) : zHS r S k i = S k i := by
  unfold zHS
  split
  · rfl
  · exact up_cell _ hk _ _ _
theorem iAll_zHS {r : Int} (hI : iAll S) : iAll (zHS r S) := iAll_fr (A := [94]) (O := []) hI (by decide) (by decide) (fun k i a _ => zHS_fr (by simpa using a))
theorem m_look {T : HS} {q1 q2 q3 : Int} (hI : iAll T) (d : 0 ≤ q1 ∧ q1 < 16 ∧ 0 ≤ q2 ∧ q2 < 12) (d3 : 0 ≤ q3 ∧ q3 ≤ 2) : zP (M_X12_look q1 q2 q3 T) (fun b U => U 51 0 = 0 ∧ (q3 = 0 → b = T 67 (16 * q2 + q1)) ∧ (q3 = 1 → (b = 0 ∨ b = 1) ∧ (b = 1 ↔ gUnl (T 2) (T 11) (T 19) (16 * q2 + q1))) ∧ (q3 = 2 → b = T 68 (16 * q2 + q1))) := by
  have c0 : 0 ≤ 16 * q2 + q1 ∧ 16 * q2 + q1 < 192 := by omega
  unfold M_X12_look J_X12_look_23
  rw [m_cell, zb_some, zif1 d, if_neg (by decide), if_neg (by omega), if_neg (by omega), zs_in, if_pos (by rw [up_eq]; decide), zl_in (by omega), zP_zb]
  refine zP_mono (m_findTaken' (iAll_thr hI 0).s) (fun _ U hU => ?_)
  obtain ⟨⟨hs, -, -⟩, hk⟩ := hU
  have s67 : U 67 = T 67 := hs 67 (by decide)
  have s68 : U 68 = T 68 := hs 68 (by decide)
  have s51 : U 51 0 = 0 := congrFun (hs 51 (by decide)) 0
  obtain ⟨v, v1, v2, v3⟩ := m_isUnlike (T := U) hI s67 s68 (fun c a b => (hk c a b).1) c0.1 c0.2
  by_cases g0 : q3 = 0
  · rw [if_pos g0, zg_in c0, zP_ret, s67]
    exact ⟨s51, fun _ => rfl, fun k => by omega, fun k => by omega⟩
  · rw [if_neg g0]
    by_cases g1 : q3 = 1
    · rw [if_pos g1, v1, zb_some]
      by_cases g : v = 0
      · rw [if_pos g, zP_ret]
        rw [g] at v3
        exact ⟨s51, fun k => absurd k g0, fun _ => ⟨Or.inl rfl, v3⟩, fun k => by omega⟩
      · rw [if_neg g, zP_ret]
        have e : v = 1 := by omega
        rw [e] at v3
        exact ⟨s51, fun k => absurd k g0, fun _ => ⟨Or.inr rfl, v3⟩, fun k => by omega⟩
    · rw [if_neg g1, zg_in c0, zP_ret, s68]
      exact ⟨s51, fun k => absurd k g0, fun k => absurd k g1, fun _ => rfl⟩
theorem e_look {q1 q2 q3 : Int} {kT : HS → zO2} (hI : iAll S) (d : 0 ≤ q1 ∧ q1 < 16 ∧ 0 ≤ q2 ∧ q2 < 12) (d3 : 0 ≤ q3 ∧ q3 ≤ 2) : zP (M_X11_look kT q1 q2 q3 S) (fun b U => U = S ∧ (q3 = 0 → b = S 2 (16 * q2 + q1)) ∧ (q3 = 1 → (b = 0 ∨ b = 1) ∧ (b = 1 ↔ gUnl (S 2) (S 11) (S 19) (16 * q2 + q1))) ∧ (q3 = 2 → b = if S 11 (16 * q2 + q1) = -1 then -1 else S 11 (16 * q2 + q1) / 200)) := by
  have c0 : 0 ≤ 16 * q2 + q1 ∧ 16 * q2 + q1 < 192 := by omega
  have e0 := gAt_in d
  obtain ⟨v, v1, v2, v3⟩ := e_isUnlike hI c0.1 c0.2
  have hm := hI.2.2.2.2.1.m.2.2.2 (16 * q2 + q1) c0.1 c0.2
  have hc := hI.2.2.2.2.1.c
  unfold M_X11_look
  rw [e_at, zb_some, e0, if_neg (by omega), if_neg (by omega), if_pos (by omega)]
  by_cases g0 : q3 = 0
  · rw [if_pos g0, e_hairsAt, zb_some, if_pos c0, zP_ret]
    exact ⟨rfl, fun _ => rfl, fun k => by omega, fun k => by omega⟩
  · rw [if_neg g0]
    by_cases g1 : q3 = 1
    · rw [if_pos g1, v1, zb_some]
      by_cases g : v = 0
      · rw [if_pos g, zP_ret]
        rw [g] at v3
        exact ⟨rfl, fun k => absurd k g0, fun _ => ⟨Or.inl rfl, v3⟩, fun k => by omega⟩
      · rw [if_neg g, zP_ret]
        have e : v = 1 := by omega
        rw [e] at v3
        exact ⟨rfl, fun k => absurd k g0, fun _ => ⟨Or.inr rfl, v3⟩, fun k => by omega⟩
    · rw [if_neg g1, e_placeAt, zb_some, if_pos c0]
      by_cases g : S 11 (16 * q2 + q1) = -1
      · rw [if_pos g, zP_ret, if_pos g]
        exact ⟨rfl, fun k => absurd k g0, fun k => absurd k g1, fun _ => rfl⟩
      · have b : 0 ≤ S 11 (16 * q2 + q1) ∧ S 11 (16 * q2 + q1) < 5000 := by
          rcases hc.2.2.2 _ c0.1 c0.2 with x | ⟨r, k, x1, x2, x3, x4, x5, x6⟩
          · exact absurd x g
          · have := hc.1
            have := hc.2.1 r x1 x2
            omega
        rw [if_neg g, zg_in (by omega), zl_in (by omega), zP_ret, if_neg g]
        exact ⟨rfl, fun k => absurd k g0, fun k => absurd k g1, fun _ => rfl⟩
theorem ok_15 (hI : Inv S) : OK_15 Inv S := by
  intro q1 q2 q3 h1 h2 h3
  obtain ⟨hW, iL, iT, iW, iP, iR, iM, iA, iG, iC, iE, iK, iB⟩ := id hI
  by_cases d : (0 ≤ q1 ∧ q1 < 16 ∧ 0 ≤ q2 ∧ q2 < 12) ∧ 0 ≤ q3 ∧ q3 ≤ 2
  · have c0 : 0 ≤ 16 * q2 + q1 ∧ 16 * q2 + q1 < 192 := by omega
    have hh := iP.1.1 (16 * q2 + q1) c0.1 c0.2
    have hm := iR.m.2.2.2 (16 * q2 + q1) c0.1 c0.2
    have hc := iR.c
    have b5 : S 11 (16 * q2 + q1) < 5000 := by
      rcases hc.2.2.2 _ c0.1 c0.2 with x | ⟨r, k, x1, x2, x3, x4, x5, x6⟩
      · omega
      · have := hc.1
        have := hc.2.1 r x1 x2
        omega
    obtain ⟨v, U, e1, rfl, v1, v2, v3⟩ := e_look (kT := kTT) hI.2 d.1 d.2
    have vb : -1 ≤ v ∧ v ≤ 1000 := by
      have w3 : q3 = 0 ∨ q3 = 1 ∨ q3 = 2 := by omega
      rcases w3 with w | w | w
      · have := v1 w
        omega
      · have := (v2 w).1
        omega
      · have k := v3 w
        split at k <;> omega
    have nT : v ≠ zT := by
      unfold zT
      omega
    have hk0 : zHk v = 0 := if_neg nT
    refine zthrow (A := mA_X12_look) (O := mO_X12_look) (B := rng) (m2 := fun T => M_X12_look q1 q2 q3 T) hI e1 (by unfold rng6; omega) (fun T w => W_M_X12_look h1 h2 h3 w) (by decide) (by decide) (by decide) (by decide) ?_
    refine zP_mono (m_look (iAll_zHS hI.2) d.1 d.2) (fun b T hT => ?_)
    obtain ⟨t0, t1, t2, t3⟩ := hT
    refine ⟨by rw [t0, hk0], fun _ => ?_⟩
    have z : ∀ k : Nat, k ≠ 94 → zHS v U k = U k := fun k hk => funext fun i => zHS_fr hk
    rw [z 67 (by decide)] at t1
    rw [z 2 (by decide), z 11 (by decide), z 19 (by decide)] at t2
    rw [z 68 (by decide)] at t3
    have w3 : q3 = 0 ∨ q3 = 1 ∨ q3 = 2 := by omega
    rcases w3 with w | w | w
    · have := v1 w
      have := t1 w
      omega
    · have x := v2 w
      have y := t2 w
      have k : b = 1 ↔ v = 1 := y.2.trans x.2.symm
      omega
    · have x := v3 w
      have y := t3 w
      split at x <;> omega
  · have e1 : M_X11_look kTT q1 q2 q3 S = some (zT, S) := by
      unfold M_X11_look J_X11_look_22
      rw [e_at, zb_some]
      by_cases a : 0 ≤ q1 ∧ q1 < 16 ∧ 0 ≤ q2 ∧ q2 < 12
      · have e0 := gAt_in a
        rw [if_neg (by omega)]
        by_cases b : q3 < 0
        · rw [if_pos b]
          rfl
        · rw [if_neg b, if_neg (by omega)]
          rfl
      · rw [if_pos (gAt_out a)]
        rfl
    refine zthrow (A := mA_X12_look) (O := mO_X12_look) (B := rng) (m2 := fun T => M_X12_look q1 q2 q3 T) hI e1 (by unfold rng6 zT; omega) (fun T w => W_M_X12_look h1 h2 h3 w) (by decide) (by decide) (by decide) (by decide) ?_
    have hz : zHS zT S = S := if_pos rfl
    show zP (M_X12_look q1 q2 q3 (zHS zT S)) _
    rw [hz]
    have hk1 : zHk zT = 1 := if_pos rfl
    have fin : zP (J_X12_look_22 q1 q2 q3 S) (fun b T => T 51 0 = zHk zT ∧ (zT ≠ zT → b = zT)) := by
      unfold J_X12_look_22 J_X12_look_23
      rw [zs_in, if_neg (by rw [up_eq]; decide), zP_ret, up_eq, hk1]
      exact ⟨rfl, fun k => absurd rfl k⟩
    unfold M_X12_look
    rw [m_cell, zb_some]
    by_cases a : 0 ≤ q1 ∧ q1 < 16 ∧ 0 ≤ q2 ∧ q2 < 12
    · rw [zif1 a, if_neg (by decide)]
      by_cases b : q3 < 0
      · rw [if_pos b]
        exact fin
      · rw [if_neg b, if_pos (by omega)]
        exact fin
    · rw [zif0 a, if_pos rfl]
      exact fin
end LK
