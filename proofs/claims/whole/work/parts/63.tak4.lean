/-! takings: the reference as a whole -/
section T5
variable {h p pl a tk a0 tk0 a' tk' : Int → Int} {d v mr : Int}
theorem TR.conv (hr : TR h p a0 tk0 a tk d v mr) (ht : TL h p pl a0 tk0 d) (hpl : ∀ c : Int, 0 ≤ c → c < 192 → pl c = -1 ∨ 0 ≤ pl c) {c : Int} (h0 : 0 ≤ c) (h1 : c < 192) : (a c = d ↔ a0 c = d) ∧ (a c = d → tk c = tk0 c ∧ 0 ≤ tk c) := by
  have x := hr.1 c h0 h1
  have y := ht.val hpl h0 h1
  have hd := ht.2.2
  by_cases g : v ≤ c ∨ ¬ gScalp h c ∨ a0 c ≠ -1
  · have z := x.1 g
    rw [z.1, z.2]
    exact ⟨Iff.rfl, fun k => ⟨rfl, by omega⟩⟩
  · have g1 : c < v := by
      by_cases k : c < v
      · exact k
      · exact absurd (Or.inl (by omega)) g
    have g2 : gScalp h c := by
      by_cases k : gScalp h c
      · exact k
      · exact absurd (Or.inr (Or.inl k)) g
    have g3 : a0 c = -1 := by
      by_cases k : a0 c = -1
      · exact k
      · exact absurd (Or.inr (Or.inr k)) g
    rcases x.2 g1 g2 g3 with z | z <;> exact ⟨⟨fun k => by omega, fun k => by omega⟩, fun k => by omega⟩
theorem gNb.conv {b : Int} (hn : gNb h p a tk d v b) (hc : ∀ c : Int, 0 ≤ c → c < 192 → (a c = d ↔ a0 c = d) ∧ (a c = d → tk c = tk0 c)) : gNb h p a0 tk0 d v b := by
  have on : ∀ {c w : Int}, gOpn h p c w ≠ -1 → 0 ≤ gOpn h p c w ∧ gOpn h p c w < 192 := fun hne => by
    have := gOpn_scalp hne
    exact ⟨this.1, this.2.1⟩
  rcases hn with ⟨x, y⟩ | ⟨x, ⟨w, w0, w4, z1, z2, z3⟩, y⟩
  · refine Or.inl ⟨x, fun w w0 w4 hne k => y w w0 w4 hne ?_⟩
    exact (hc _ (on hne).1 (on hne).2).1.mpr k
  · refine Or.inr ⟨x, ⟨w, w0, w4, z1, (hc _ (on z1).1 (on z1).2).1.mp z2, ?_⟩, fun w w0 w4 hne k => ?_⟩
    · rw [← (hc _ (on z1).1 (on z1).2).2 z2]
      exact z3
    · have k2 := (hc _ (on hne).1 (on hne).2).1.mpr k
      rw [← (hc _ (on hne).1 (on hne).2).2 k2]
      exact y w w0 w4 hne k2
theorem TR.skip (hr : TR h p a0 tk0 a tk d v mr) (hv : ¬ gScalp h v ∨ a0 v ≠ -1) : TR h p a0 tk0 a tk d (v + 1) mr := by
  refine ⟨fun c c0 c1 => ⟨fun g => ?_, fun g1 g2 g3 => ?_⟩, ?_⟩
  · refine (hr.1 c c0 c1).1 ?_
    rcases g with g | g
    · exact Or.inl (by omega)
    · exact Or.inr g
  · refine (hr.1 c c0 c1).2 ?_ g2 g3
    by_cases e : c = v
    · subst e
      rcases hv with k | k
      · exact absurd g2 k
      · exact absurd g3 k
    · omega
  · rcases hr.2 with ⟨x, y⟩ | ⟨x, c, c0, c1, y⟩
    · refine Or.inl ⟨x, fun c c0 c1 g2 g3 => y c c0 ?_ g2 g3⟩
      by_cases e : c = v
      · subst e
        rcases hv with k | k
        · exact absurd g2 k
        · exact absurd g3 k
      · omega
    · exact Or.inr ⟨x, c, c0, by omega, y⟩
theorem TR.none (hr : TR h p a0 tk0 a tk d v mr) (h0 : 0 ≤ v) (h1 : v < 192) (hv : a0 v = -1) (hn : gNb h p a0 tk0 d v (-1)) : TR h p a0 tk0 a tk d (v + 1) mr := by
  have z := (hr.1 v h0 h1).1 (Or.inl (Int.le_refl _))
  refine ⟨fun c c0 c1 => ⟨fun g => ?_, fun g1 g2 g3 => ?_⟩, ?_⟩
  · refine (hr.1 c c0 c1).1 ?_
    rcases g with g | g
    · exact Or.inl (by omega)
    · exact Or.inr g
  · by_cases e : c = v
    · subst e
      exact Or.inl ⟨by omega, z.2, hn⟩
    · exact (hr.1 c c0 c1).2 (by omega) g2 g3
  · rcases hr.2 with ⟨x, y⟩ | ⟨x, c, c0, c1, y⟩
    · refine Or.inl ⟨x, fun c c0 c1 g2 g3 => ?_⟩
      by_cases e : c = v
      · subst e
        omega
      · exact y c c0 (by omega) g2 g3
    · exact Or.inr ⟨x, c, c0, by omega, y⟩
theorem TR.set {b : Int} (hr : TR h p a0 tk0 a tk d v mr) (hs : gScalp h v) (hv : a0 v = -1) (hb : 0 ≤ b) (hn : gNb h p a0 tk0 d v b) (ha : ∀ c : Int, a' c = if c = v then -2 - d else a c) (htk : ∀ c : Int, tk' c = if c = v then b else tk c) : TR h p a0 tk0 a' tk' d (v + 1) 1 := by
  refine ⟨fun c c0 c1 => ⟨fun g => ?_, fun g1 g2 g3 => ?_⟩, Or.inr ⟨rfl, v, hs.1, by omega, hs, hv, by rw [ha, if_pos rfl]⟩⟩
  · have e : c ≠ v := by
      intro e
      subst e
      rcases g with g | g | g
      · omega
      · exact g hs
      · exact g hv
    rw [ha, htk, if_neg e, if_neg e]
    refine (hr.1 c c0 c1).1 ?_
    rcases g with g | g
    · exact Or.inl (by omega)
    · exact Or.inr g
  · by_cases e : c = v
    · subst e
      rw [ha, htk, if_pos rfl, if_pos rfl]
      exact Or.inr ⟨rfl, hb, hn⟩
    · rw [ha, htk, if_neg e, if_neg e]
      exact (hr.1 c c0 c1).2 (by omega) g2 g3
end T5
section T6
variable {S : HS}
theorem rSame.up {l : List Nat} {S T : HS} {k : Nat} {i v : Int} (h : rSame l S T) (hk : k ∈ l) : rSame l S (up T k i v) := by
  intro x hx
  have ne : x ≠ k := fun e => hx (e ▸ hk)
  funext j
  rw [up_cell _ ne]
  exact congrFun (h x hx) j
/-- who takes, before the layers -/
theorem m_ini {k : HS → zO2} {Q : Int → HS → Prop} (hk : ∀ T : HS, rSame [77, 78] S T → (∀ c : Int, 0 ≤ c → c < 192 → T 77 c = -2 ∧ T 78 c = if S 68 c < 0 then -1 else 0) → zP (k T) Q) : zP (L_X12_findTaken_2 k zBig 0 S) Q := by
  refine zloop (b := 192) (fun v T => (0 ≤ v ∧ v ≤ 192) ∧ rSame [77, 78] S T ∧ ∀ c : Int, 0 ≤ c → c < v → T 77 c = -2 ∧ T 78 c = if S 68 c < 0 then -1 else 0) (fun m v T hJ hv => ?_) (fun m v T hJ hv ih => ?_) _ _ _ ⟨⟨by decide, by decide⟩, fun _ _ => rfl, fun c a b => by omega⟩ (zbig (by decide))
  · obtain ⟨a, b, c⟩ := hJ
    rw [L_X12_findTaken_2.eq_2, if_pos hv]
    exact hk T b (fun e e0 e1 => c e e0 (by omega))
  · obtain ⟨a, b, c⟩ := hJ
    have s68 : up T 77 v (-2) 68 v = S 68 v := by
      rw [up_cell _ (by decide)]
      exact congrFun (b 68 (by decide)) v
    have fin : ∀ t : Int, (t = if S 68 v < 0 then -1 else 0) → zP (J_X12_findTaken_36 (L_X12_findTaken_2 k m) v t v (up T 77 v (-2))) Q := by
      intro t ht
      unfold J_X12_findTaken_36
      rw [zg_in ⟨a.1, hv⟩, zs_in, zl_in (by omega)]
      refine ih _ ⟨by omega, (b.up (by decide)).up (by decide), fun e e0 e1 => ?_⟩
      rw [up_cell _ (by decide), up_same, up_same, up_cell _ (by decide)]
      by_cases g : e = v
      · rw [if_pos g, if_pos g, g]
        exact ⟨rfl, ht⟩
      · rw [if_neg g, if_neg g]
        exact c e e0 (by omega)
    rw [L_X12_findTaken_2.eq_2, if_neg (by omega), zg_in ⟨a.1, hv⟩, zs_in, zg_in ⟨a.1, hv⟩, s68]
    by_cases g : S 68 v < 0
    · rw [if_pos g]
      exact fin _ (by rw [if_pos g])
    · rw [if_neg g]
      exact fin _ (by rw [if_neg g])
def hasTak (S T : HS) : Prop := rSame [77, 78] S T ∧ (∃ a : Int → Int, gTak (S 2) (S 4) (S 11) a (T 77)) ∧ ∀ c : Int, 0 ≤ c → c < 192 → S 2 c = -1 → T 77 c = -2
theorem m_round {T0 : HS} {d : Int} {k : Int → HS → zO2} {Q : Int → HS → Prop} (hR : rHP S) (hpl : ∀ c : Int, 0 ≤ c → c < 192 → S 11 c = -1 ∨ 0 ≤ S 11 c) (hd : d ≤ 200) (h0 : rSame [77, 78] S T0) (ht : TL (S 2) (S 4) (S 11) (T0 78) (T0 77) d) (hk : ∀ (mr : Int) (T : HS), rSame [77, 78] S T → TR (S 2) (S 4) (T0 78) (T0 77) (T 78) (T 77) d 192 mr → zP (k mr T) Q) : zP (L_X12_findTaken_113 k d zBig 0 0 T0) Q := by
  refine zloop2 (b := 192) (fun mr v T => (0 ≤ v ∧ v ≤ 192) ∧ rSame [77, 78] S T ∧ TR (S 2) (S 4) (T0 78) (T0 77) (T 78) (T 77) d v mr) (fun m mr v T hJ hv => ?_) (fun m mr v T hJ hv ih => ?_) _ _ _ _ ⟨⟨by decide, by decide⟩, h0, ⟨fun c c0 c1 => ⟨fun _ => ⟨rfl, rfl⟩, fun g => by omega⟩, Or.inl ⟨rfl, fun c c0 c1 => by omega⟩⟩⟩ (zbig (by decide))
  · obtain ⟨a, b, c⟩ := hJ
    rw [L_X12_findTaken_113.eq_2, if_pos hv]
    have e : v = 192 := by omega
    subst e
    exact hk mr T b c
  · obtain ⟨a, b, c⟩ := hJ
    have d0 := ht.2.2
    have t67 : T 67 v = S 67 v := congrFun (b 67 (by decide)) v
    have t2 : T 2 = S 2 := b 2 (by decide)
    have t4 : T 4 = S 4 := b 4 (by decide)
    have hRT : rHP T := rSame.hp hR b (by decide)
    have hh := hR.1 v a.1 hv
    have zz := (c.1 v a.1 hv).1 (Or.inl (Int.le_refl _))
    have vv := ht.val hpl a.1 hv
    rw [L_X12_findTaken_113.eq_2, if_neg (by omega), zg_in ⟨a.1, hv⟩, t67, hh.1]
    unfold J_X12_findTaken_171
    by_cases g : S 2 v < 0
    · rw [if_pos g, zl_in (by omega)]
      exact ih _ _ ⟨by omega, b, c.skip (Or.inl (fun q => by have := q.2.2; omega))⟩
    · rw [if_neg g, zg_in ⟨a.1, hv⟩]
      by_cases g2 : 0 ≤ T 78 v
      · rw [if_pos g2, zl_in (by omega)]
        exact ih _ _ ⟨by omega, b, c.skip (Or.inr (by omega))⟩
      · rw [if_neg g2]
        have gs : gScalp (S 2) v := ⟨a.1, hv, by omega⟩
        have ga : T0 78 v = -1 := by omega
        have cv := fun e e0 e1 => c.conv ht hpl (c := e) e0 e1
        rw [zP_zb]
        refine zP_mono (m_nearest hRT a.1 hv (fun e e0 e1 k => ((cv e e0 e1).2 k).2)) (fun r U hU => ?_)
        obtain ⟨rfl, hn⟩ := hU
        rw [t2, t4] at hn
        have hn2 := hn.conv (fun e e0 e1 => ⟨(cv e e0 e1).1, fun k => ((cv e e0 e1).2 k).1⟩)
        by_cases g3 : r < 0
        · rw [if_pos g3, zl_in (by omega)]
          have e : r = -1 := by
            rcases hn2 with x | x <;> omega
          subst e
          exact ih _ _ ⟨by omega, b, c.none a.1 hv ga hn2⟩
        · rw [if_neg g3, zg_in ⟨a.1, hv⟩, zs_in, zl_in (by omega), zg_in ⟨a.1, hv⟩, zs_in, zl_in (by omega)]
          refine ih _ _ ⟨by omega, (b.up (by decide)).up (by decide), c.set gs ga (by omega) hn2 (fun e => ?_) (fun e => ?_)⟩
          · rw [up_same, up_cell _ (by decide)]
          · rw [up_cell _ (by decide), up_same]
theorem m_second {T0 : HS} {d mr : Int} {k : HS → zO2} {Q : Int → HS → Prop} (hd : 0 ≤ d ∧ d ≤ 200) (h0 : rSame [77, 78] S T0) (hk : ∀ T : HS, rSame [77, 78] S T → T 77 = T0 77 → (∀ c : Int, 0 ≤ c → c < 192 → T 78 c = if T0 78 c < -1 then d + 1 else T0 78 c) → zP (k T) Q) : zP (L_X12_findTaken_179 k mr d zBig 0 T0) Q := by
  refine zloop (b := 192) (fun v T => (0 ≤ v ∧ v ≤ 192) ∧ rSame [77, 78] S T ∧ T 77 = T0 77 ∧ ∀ c : Int, T 78 c = if 0 ≤ c ∧ c < v ∧ T0 78 c < -1 then d + 1 else T0 78 c) (fun m v T hJ hv => ?_) (fun m v T hJ hv ih => ?_) _ _ _ ⟨⟨by decide, by decide⟩, h0, rfl, fun c => by rw [if_neg (by omega)]⟩ (zbig (by decide))
  · obtain ⟨a, b, b2, c⟩ := hJ
    rw [L_X12_findTaken_179.eq_2, if_pos hv]
    refine hk T b b2 (fun e e0 e1 => ?_)
    rw [c e]
    by_cases g : T0 78 e < -1
    · rw [if_pos ⟨e0, by omega, g⟩, if_pos g]
    · rw [if_neg (fun q => g q.2.2), if_neg g]
  · obtain ⟨a, b, b2, c⟩ := hJ
    have cv := c v
    rw [if_neg (by omega)] at cv
    have fin : ∀ t : Int, (t = if T0 78 v < -1 then d + 1 else T0 78 v) → zP (J_X12_findTaken_213 (L_X12_findTaken_179 k mr d m) mr d v t v T) Q := by
      intro t ht
      unfold J_X12_findTaken_213
      rw [zg_in ⟨a.1, hv⟩, zs_in, zl_in (by omega)]
      refine ih _ ⟨by omega, b.up (by decide), ?_, fun e => ?_⟩
      · funext j
        rw [up_cell _ (by decide), b2]
      · rw [up_same]
        by_cases g : e = v
        · rw [if_pos g, g, ht]
          by_cases g2 : T0 78 v < -1
          · rw [if_pos g2, if_pos ⟨a.1, by omega, g2⟩]
          · rw [if_neg g2, if_neg (fun q => g2 q.2.2)]
        · rw [if_neg g, c e]
          by_cases g2 : 0 ≤ e ∧ e < v ∧ T0 78 e < -1
          · rw [if_pos g2, if_pos ⟨g2.1, by omega, g2.2.2⟩]
          · rw [if_neg g2, if_neg (fun q => g2 ⟨q.1, by omega, q.2.2⟩)]
    rw [L_X12_findTaken_179.eq_2, if_neg (by omega), zg_in ⟨a.1, hv⟩, cv]
    by_cases g : -1 ≤ T0 78 v
    · rw [if_pos g, zg_in ⟨a.1, hv⟩]
      exact fin _ (by rw [if_neg (by omega)])
    · rw [if_neg g, zl_in (by omega)]
      exact fin _ (by rw [if_pos (by omega)])
set_option maxHeartbeats 1000000 in
theorem m_findTaken (hR : rHP S) (hI : iRow S) : zP (M_X12_findTaken S) (fun _ T => hasTak S T) := by
  have c0 := hI.c
  have m0 := hI.m
  have hpl : ∀ c : Int, 0 ≤ c → c < 192 → S 11 c = -1 ∨ 0 ≤ S 11 c := by
    intro c a b
    rcases m0.2.2.2 c a b with x | x
    · exact Or.inl x.1
    · exact Or.inr x.1
  have hsc : ∀ c : Int, 0 ≤ c → c < 192 → S 2 c = -1 → S 11 c = -1 := by
    intro c a b e
    rcases c0.2.2.2 c a b with x | ⟨r, k, x1, x2, x3, x4, x5, x6⟩
    · exact x
    · have := (c0.2.2.1 r k x1 x2 x3 x4).2.2.2
      rw [x6] at this
      omega
  unfold M_X12_findTaken
  refine m_ini (fun T1 s1 h1 => ?_)
  have hI1 : iRow T1 := by
    have e : ∀ k : Nat, k ≠ 77 → k ≠ 78 → T1 k = S k := fun k a b => s1 k (by simp [a, b])
    unfold iRow cel at hI ⊢
    rw [e 51 (by decide) (by decide), e 7 (by decide) (by decide), e 9 (by decide) (by decide), e 69 (by decide) (by decide), e 10 (by decide) (by decide), e 70 (by decide) (by decide), e 8 (by decide) (by decide), e 11 (by decide) (by decide), e 2 (by decide) (by decide), e 68 (by decide) (by decide)]
    exact hI
  refine m_place hI1 (fun T2 s2 h2 => ?_) (fun c a b => (h1 c a b).1)
  have s12 : rSame [77, 78] S T2 := fun k hk => by
    have k1 : k ≠ 77 ∧ k ≠ 78 := by simpa using hk
    rw [s2 k (by simpa using k1.1), s1 k hk]
  have e11 : T1 11 = S 11 := s1 11 (by decide)
  have e78 : T2 78 = T1 78 := s2 78 (by decide)
  refine zloopM (F := fun n (x : Int × Int × HS) => L_X12_findTaken_105 n x.1 x.2.1 x.2.2) (fun x => rSame [77, 78] S x.2.2 ∧ ((x.1 = 1 ∧ TL (S 2) (S 4) (S 11) (x.2.2 78) (x.2.2 77) x.2.1 ∧ x.2.1 ≤ acn (x.2.2 78)) ∨ (x.1 = 0 ∧ hasTak S x.2.2))) (fun x => if x.1 = 0 then 0 else (193 - acn (x.2.2 78)).toNat) (fun n x hJ ih => ?_) zBig (1, 0, T2) ⟨s12, Or.inl ⟨rfl, ⟨fun c a b => ⟨fun e => ?_, fun e => Or.inl ?_⟩, fun c hc ha w w0 w4 hne => ?_, Int.le_refl _⟩, acn_r.1⟩⟩ ?_
  · obtain ⟨mr, d, T⟩ := x
    obtain ⟨b, hJ⟩ := hJ
    show zP (L_X12_findTaken_105 (n + 1) mr d T) _
    rw [L_X12_findTaken_105.eq_2]
    rcases hJ with ⟨rfl, ht, hd⟩ | ⟨rfl, hh⟩
    · have d0 := ht.2.2
      have ar := acn_r (a := T 78)
      simp only at b ht hd ar d0
      rw [if_neg (by decide)]
      refine m_round hR hpl (by omega) b ht (fun mr U b2 hr => ?_)
      refine m_second (by omega) b2 (fun V b3 e77 e78 => ?_)
      rw [zl_in (by omega)]
      rcases hr.2 with ⟨rfl, -⟩ | ⟨rfl, -⟩
      · have x := hr.last ht hpl e78
        refine ih (0, d + 1, V) ⟨b3, Or.inr ⟨rfl, b3, ⟨T 78, ?_⟩, ?_⟩⟩ ?_
        · show gTak (S 2) (S 4) (S 11) (T 78) (V 77)
          rw [e77]
          exact x.1
        · show ∀ c : Int, 0 ≤ c → c < 192 → S 2 c = -1 → V 77 c = -2
          intro c a1 a2 e
          rw [e77]
          exact x.2 c a1 a2 e (hsc c a1 a2 e)
        · show 0 < if (1 : Int) = 0 then 0 else (193 - acn (T 78)).toNat
          rw [if_neg (by decide)]
          omega
      · have x := hr.next ht hpl e78
        refine ih (1, d + 1, V) ⟨b3, Or.inl ⟨rfl, ?_, ?_⟩⟩ ?_
        · show TL (S 2) (S 4) (S 11) (V 78) (V 77) (d + 1)
          rw [e77]
          exact x.1
        · show d + 1 ≤ acn (V 78)
          have := x.2
          omega
        · show (if (1 : Int) = 0 then 0 else (193 - acn (V 78)).toNat) < if (1 : Int) = 0 then 0 else (193 - acn (T 78)).toNat
          rw [if_neg (by decide), if_neg (by decide)]
          have := x.2
          omega
    · rw [if_pos rfl, zP_ret]
      exact hh
  · show T2 78 c = 0 ∧ T2 77 c = S 11 c
    rw [h2 c a b, e78, (h1 c a b).2, e11, if_neg e]
    rcases m0.2.2.2 c a b with x | x
    · exact absurd x.1 e
    · rw [if_neg (by omega)]
      exact ⟨rfl, rfl⟩
  · show T2 78 c = -1 ∧ T2 77 c = -2
    rw [h2 c a b, e78, (h1 c a b).2, e11, if_pos e]
    rcases m0.2.2.2 c a b with x | x
    · rw [if_pos (by omega)]
      exact ⟨rfl, rfl⟩
    · omega
  · show T2 78 _ = -1 ∨ T2 78 _ = 0
    have := gOpn_scalp hne
    rw [e78, (h1 _ this.1 this.2.1).2]
    split
    · exact Or.inl rfl
    · exact Or.inr rfl
  · show (if (1 : Int) = 0 then 0 else (193 - acn (T2 78)).toNat) < zBig
    have := acn_r (a := T2 78)
    rw [if_neg (by decide)]
    unfold zBig
    omega
end T6
