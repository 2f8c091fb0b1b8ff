/-! hangs: the reference searches -/
theorem gL_inj {k a b : Int} (ha : 0 ≤ a ∧ a ≤ 2) (hb : 0 ≤ b ∧ b ≤ 2) : gL k a = gL k b ↔ a = b := by
  have a3 : a = 0 ∨ a = 1 ∨ a = 2 := by omega
  have b3 : b = 0 ∨ b = 1 ∨ b = 2 := by omega
  unfold gL
  rcases a3 with rfl | rfl | rfl <;> rcases b3 with rfl | rfl | rfl <;> simp <;> repeat' split <;> omega
section H2
variable {S : HS}
theorem m_reach {T : HS} {mm r k : Int} (r0 : 0 ≤ r) (r1 : r < 24) (hm : 0 ≤ mm ∧ mm ≤ 2000) (h69 : 0 ≤ T 69 r ∧ T 69 r ≤ 192) (hk : 0 ≤ k ∧ k ≤ 192) : M_X12_reach mm r k T = some (max 0 (mm - 10 * (T 69 r - 1 - k)), T) := by
  unfold M_X12_reach
  rw [zg_in ⟨r0, r1⟩, zl_in (by omega)]
  split
  · rw [show max 0 (mm - 10 * (T 69 r - 1 - k)) = mm - 10 * (T 69 r - 1 - k) by omega]
  · rw [show max 0 (mm - 10 * (T 69 r - 1 - k)) = 0 by omega]
def gLt (S : HS) (r s t l : Int) : Int := if s = 3 ∨ l = s then (if t ≤ gRc S r (S 1 1) 0 then (S 21 (cel S r 0) + 2 - l) / 3 else 0) else 0
theorem m_reaching {T : HS} (hI : iSum S) {r p s t : Int} (r0 : 0 ≤ r) (r1 : r < S 7 11) (hp : (p = -1 ∧ s = 3) ∨ ((0 ≤ s ∧ s ≤ 2) ∧ p = gL (S 10 r - 1) s)) (hT : mBr S T r (S 10 r)) : M_X12_reaching r p t T = some (gHc S r s t, T) := by
  have hR := hI.2.2.2.2.1.c
  have h24 := hR.1.2.1
  have hr := hR.2.1 r r0 r1
  have iA := hI.2.2.2.2.2.2.1
  have h23 := iA.1
  have l0 := hI.1
  have l1 : 20 ≤ S 1 1 ∧ S 1 1 ≤ 2000 := ⟨l0.2.1, l0.2.2.1⟩
  obtain ⟨hs, h83, h84, h87, h85, h88⟩ := hT
  have t69 : T 69 r = S 10 r := (congrFun (hs 69 (by decide)) r).trans (hI.2.2.2.2.1.m.2.1 r r0 r1)
  have t37 : T 51 37 = S 1 1 := (congrFun (hs 51 (by decide)) 37).trans l0.1
  have t43 : T 51 43 = S 23 4 := (congrFun (hs 51 (by decide)) 43).trans h23.1
  have hsr : 0 ≤ s ∧ s ≤ 3 := by omega
  have o0 := own_r hI r0 r1 (Int.le_refl 0) (show 0 < S 10 r by omega)
  have pneg : p < 0 ↔ s = 3 := by
    rcases hp with ⟨a, b⟩ | ⟨a, b⟩
    · omega
    · have := gL_r (k := S 10 r - 1) a
      omega
  have sel : ∀ a : Int, 0 ≤ a ∧ a ≤ 2 → s ≠ 3 → (gL (S 10 r - 1) a = p ↔ a = s) := by
    intro a ha hn
    rcases hp with ⟨x, y⟩ | ⟨x, y⟩
    · exact absurd y hn
    · rw [y]
      exact gL_inj ha x
  refine zP_eq ?_
  unfold M_X12_reaching
  have ltr : ∀ l : Int, 0 ≤ l → l < 3 → 0 ≤ gLt S r s t l ∧ gLt S r s t l ≤ 19008 := by
    intro l a b
    unfold gLt
    repeat' split
    all_goals omega
  refine zloop2 (b := 3) (fun a l U => (0 ≤ l ∧ l ≤ 3) ∧ U = T ∧ a = zsum (gLt S r s t) l.toNat) (fun n a l U hJ hl => ?_) (fun n a l U hJ hl ih => ?_) _ _ _ _ ⟨⟨Int.le_refl _, by decide⟩, rfl, rfl⟩ (zbig (by decide))
  · obtain ⟨x, rfl, e⟩ := hJ
    have e3 : l = 3 := by omega
    subst e3
    have e1 : a = zsum (gHk S r s t) (1 : Int).toNat := by
      rw [e]
      show (0 : Int) + gLt S r s t 0 + gLt S r s t 1 + gLt S r s t 2 = 0 + gHk S r s t 0
      unfold gLt gHk gSh
      by_cases q : t ≤ gRc S r (S 1 1) 0
      · simp only [q, if_true]
        have s4 : s = 0 ∨ s = 1 ∨ s = 2 ∨ s = 3 := by omega
        rcases s4 with rfl | rfl | rfl | rfl <;> simp <;> omega
      · simp only [q, if_false]
        simp
    rw [L_X12_reaching_6.eq_2, if_pos (by decide)]
    refine zloop2 (b := S 10 r) (fun a k V => (1 ≤ k ∧ k ≤ S 10 r) ∧ V = U ∧ a = zsum (gHk S r s t) k.toNat) (fun n a k V hJ hk => ?_) (fun n a k V hJ hk ih => ?_) _ _ _ _ ⟨⟨Int.le_refl _, by omega⟩, rfl, e1⟩ (zbig (by omega))
    · obtain ⟨x, rfl, e⟩ := hJ
      have ek : k = S 10 r := by omega
      subst ek
      have sr := gHs_r hI r0 r1 (t := t) (show 0 ≤ S 10 r by omega) (Int.le_refl _) hsr
      rw [L_X12_reaching_66.eq_2, zg_in (by omega), if_pos (by omega)]
      refine zloop2 (b := S 23 4) (fun a i W => (0 ≤ i ∧ i ≤ S 23 4) ∧ W = V ∧ a = zsum (gHk S r s t) (S 10 r).toNat + zsum (gHa S r s t) i.toNat) (fun n a i W hJ hi => ?_) (fun n a i W hJ hi ih => ?_) _ _ _ _ ⟨⟨Int.le_refl _, h23.2.1⟩, rfl, by rw [e]; exact (Int.add_zero _).symm⟩ (zbig (by omega))
      · obtain ⟨x, rfl, e⟩ := hJ
        have ei : i = S 23 4 := by omega
        subst ei
        rw [L_X12_reaching_132.eq_2, if_pos (by omega), zP_ret]
        exact ⟨e, rfl⟩
      · obtain ⟨x, rfl, e⟩ := hJ
        have z := iA.2.1 i x.1 hi
        have w79 : W 79 i = S 24 i := by rw [hs 79 (by decide)]; exact z.1.1
        have w80 : W 80 i = S 25 i := by rw [hs 80 (by decide)]; exact z.1.2.1
        have w81 : W 81 i = S 26 i := by rw [hs 81 (by decide)]; exact z.1.2.2.1
        have w82 : W 82 i = S 27 i := by rw [hs 82 (by decide)]; exact z.1.2.2.2
        have br := gHb_r hI (r := r) (s := s) (t := t) x.1 x.2
        have ar := gHa_r hI (r := r) (s := s) (t := t) x.1 hi
        have skip : gHa S r s t i = 0 → zP (J_X12_reaching_202 (L_X12_reaching_132 r p t n) r p t i a W) (fun v T => v = gHc S r s t ∧ T = W) := by
          intro h0
          unfold J_X12_reaching_202 J_X12_reaching_203
          rw [zl_in (by omega), zl_in (by omega)]
          exact ih _ _ ⟨by omega, rfl, by rw [zsum_n x.1, h0, e]; omega⟩
        have take : S 24 i = r → (s = 3 ∨ gT (S 25 i) = s) → zP (J_X12_reaching_169 (L_X12_reaching_132 r p t n) r p t i a W) (fun v T => v = gHc S r s t ∧ T = W) := by
          intro q1 q2
          have ge : gHa S r s t i = if t ≤ max 0 (S 27 i - 10 * (S 10 r - 1 - S 25 i)) then S 26 i else 0 := by
            unfold gHa gRc
            rw [if_pos ⟨q1, q2⟩]
          unfold J_X12_reaching_169
          rw [q1] at z
          rw [zg_in (by omega), zg_in (by omega), w82, w80, m_reach r0 (by omega) (by omega) (by omega) (by omega), zb_some, t69]
          by_cases g : max 0 (S 27 i - 10 * (S 10 r - 1 - S 25 i)) < t
          · rw [if_pos g]
            exact skip (by rw [ge, if_neg (by omega)])
          · rw [if_neg g, zg_in (by omega), w81]
            rw [if_pos (by omega)] at ge
            unfold J_X12_reaching_203
            rw [zl_in (by omega), zl_in (by omega)]
            exact ih _ _ ⟨by omega, rfl, by rw [zsum_n x.1, ge, e]; omega⟩
        rw [L_X12_reaching_132.eq_2, if_neg (by omega), zg_in (by omega), w79]
        by_cases g : S 24 i = r
        · rw [if_pos g]
          by_cases g2 : p < 0
          · rw [if_pos g2]
            exact take g (Or.inl (pneg.mp g2))
          · have s3 : s ≠ 3 := fun q => g2 (pneg.mpr q)
            rw [if_neg g2, zg_in (by omega), h88 i x.1 hi g (by rw [g] at z; omega)]
            by_cases g3 : gL (S 10 r - 1) (gT (S 25 i)) = p
            · rw [if_pos g3]
              exact take g (Or.inr ((sel _ gT_r s3).mp g3))
            · rw [if_neg g3]
              refine skip ?_
              unfold gHa
              rw [if_neg (fun q => q.2.elim s3 (fun y => g3 ((sel _ gT_r s3).mpr y)))]
        · rw [if_neg g]
          refine skip ?_
          unfold gHa
          rw [if_neg (fun q => g q.1)]
    · obtain ⟨x, rfl, e⟩ := hJ
      have sr := gHs_r hI r0 r1 (s := s) (t := t) (show 0 ≤ k by omega) x.2 hsr
      have kr := gHk_r hI r0 r1 (s := s) (t := t) (show 0 ≤ k by omega) hk hsr
      have skip : gHk S r s t k = 0 → zP (J_X12_reaching_119 (L_X12_reaching_66 (fun e4 S23 => L_X12_reaching_132 r p t zBig e4 0 S23) r p t n) r p t k a V) (fun v T => v = gHc S r s t ∧ T = V) := by
        intro h0
        unfold J_X12_reaching_119 J_X12_reaching_120
        rw [zl_in (by omega), zl_in (by omega)]
        exact ih _ _ ⟨by omega, rfl, by rw [zsum_n (by omega), h0, e]⟩
      have take : (s = 3 ∨ gT k = s) → zP (J_X12_reaching_94 (L_X12_reaching_66 (fun e4 S23 => L_X12_reaching_132 r p t zBig e4 0 S23) r p t n) r p t k a V) (fun v T => v = gHc S r s t ∧ T = V) := by
        intro q2
        have ge : gHk S r s t k = if t ≤ max 0 (S 1 1 - 10 * (S 10 r - 1 - k)) then S 21 (cel S r k) else 0 := by
          unfold gHk gSh gRc
          rcases q2 with y | y
          · rw [if_pos y]
          · by_cases y2 : s = 3
            · rw [if_pos y2]
            · rw [if_neg y2, if_neg (show ¬ k = 0 by omega), if_pos y]
        unfold J_X12_reaching_94
        rw [t37, m_reach r0 (by omega) (by omega) (by omega) (by omega), zb_some, t69]
        by_cases g : max 0 (S 1 1 - 10 * (S 10 r - 1 - k)) < t
        · rw [if_pos g]
          exact skip (by rw [ge, if_neg (by omega)])
        · rw [if_neg g, zg_in (by omega), h83 k (by omega) hk]
          rw [if_pos (by omega)] at ge
          unfold J_X12_reaching_120
          rw [zl_in (by omega), zl_in (by omega)]
          exact ih _ _ ⟨by omega, rfl, by rw [zsum_n (by omega), ge, e]⟩
      rw [L_X12_reaching_66.eq_2, zg_in (by omega), if_neg (by omega)]
      by_cases g2 : p < 0
      · rw [if_pos g2]
        exact take (Or.inl (pneg.mp g2))
      · have s3 : s ≠ 3 := fun q => g2 (pneg.mpr q)
        rw [if_neg g2, zg_in (by omega), h85 k (by omega) hk]
        by_cases g3 : gL (S 10 r - 1) (gT k) = p
        · rw [if_pos g3]
          exact take (Or.inr ((sel _ gT_r s3).mp g3))
        · rw [if_neg g3]
          refine skip ?_
          have y : gT k ≠ s := fun y => g3 ((sel _ gT_r s3).mpr y)
          unfold gHk gSh
          rw [if_neg s3, if_neg (show ¬ k = 0 by omega), if_neg y]
          split <;> rfl
  · obtain ⟨x, rfl, e⟩ := hJ
    have lr := ltr l x.1 hl
    have lz := zsum_r (f := gLt S r s t) (c := 19008) x.1 (fun i i0 i1 => ltr i i0 (by omega))
    have skip : gLt S r s t l = 0 → zP (J_X12_reaching_53 (L_X12_reaching_6 (fun e4 S11 => L_X12_reaching_66 (fun e4 S23 => L_X12_reaching_132 r p t zBig e4 0 S23) r p t zBig e4 1 S11) r p t n) r p t l a U) (fun v T => v = gHc S r s t ∧ T = U) := by
      intro h0
      unfold J_X12_reaching_53 J_X12_reaching_54
      rw [zl_in (by omega), zl_in (by omega)]
      exact ih _ _ ⟨by omega, rfl, by rw [zsum_n x.1, h0, e]⟩
    have take : (s = 3 ∨ l = s) → zP (J_X12_reaching_29 (L_X12_reaching_6 (fun e4 S11 => L_X12_reaching_66 (fun e4 S23 => L_X12_reaching_132 r p t zBig e4 0 S23) r p t zBig e4 1 S11) r p t n) r p t l a U) (fun v T => v = gHc S r s t ∧ T = U) := by
      intro q2
      have ge : gLt S r s t l = if t ≤ max 0 (S 1 1 - 10 * (S 10 r - 1 - 0)) then (S 21 (cel S r 0) + 2 - l) / 3 else 0 := by
        unfold gLt gRc
        rw [if_pos q2]
      unfold J_X12_reaching_29
      rw [t37, m_reach r0 (by omega) (by omega) (by omega) (by omega), zb_some, t69]
      by_cases g : max 0 (S 1 1 - 10 * (S 10 r - 1 - 0)) < t
      · rw [if_pos g]
        exact skip (by rw [ge, if_neg (by omega)])
      · rw [if_neg g, zg_in (by omega), (h87 l x.1 hl).1]
        rw [if_pos (by omega)] at ge
        unfold J_X12_reaching_54
        rw [zl_in (by omega), zl_in (by omega)]
        exact ih _ _ ⟨by omega, rfl, by rw [zsum_n x.1, ge, e]⟩
    rw [L_X12_reaching_6.eq_2, if_neg (by omega)]
    by_cases g2 : p < 0
    · rw [if_pos g2]
      exact take (Or.inl (pneg.mp g2))
    · have s3 : s ≠ 3 := fun q => g2 (pneg.mpr q)
      rw [if_neg g2, zg_in (by omega), (h87 l x.1 hl).2]
      by_cases g3 : gL (S 10 r - 1) l = p
      · rw [if_pos g3]
        exact take (Or.inr ((sel l (by omega) s3).mp g3))
      · rw [if_neg g3]
        refine skip ?_
        unfold gLt
        rw [if_neg (fun q => q.elim s3 (fun y => g3 ((sel l (by omega) s3).mpr y)))]
theorem m_greatest {T : HS} (hI : iSum S) {r p s w : Int} (r0 : 0 ≤ r) (r1 : r < S 7 11) (hp : (p = -1 ∧ s = 3) ∨ ((0 ≤ s ∧ s ≤ 2) ∧ p = gL (S 10 r - 1) s)) (hT : mBr S T r (S 10 r)) (hv : gOK (gHc S r s) w) : M_X12_greatest r p w T = some (gVl (gHc S r s) w, T) := by
  refine zP_eq ?_
  unfold M_X12_greatest
  rw [m_reaching hI r0 r1 hp hT, zb_some]
  rcases hv with ⟨h1, h2, h3⟩ | ⟨h1, h2⟩
  · have z := (h1 0 (Int.le_refl 0)).mpr h2
    rw [if_neg (by omega)]
    generalize gVl (gHc S r s) w = v at h1 h2 h3
    refine zloopM (F := fun n (y : Int × Int × HS) => L_X12_greatest_19 r p w n y.1 y.2.1 y.2.2) (fun y => y.2.2 = T ∧ (0 ≤ y.1 ∧ y.1 ≤ v) ∧ ∃ k : Nat, k ≤ 11 ∧ y.2.1 = (2 ^ k : Nat) / 2 ∧ v < y.1 + (2 ^ k : Nat)) (fun y => (y.2.1 + 1).toNat) (fun n y hJ ih => ?_) zBig (0, 1024, T) ⟨rfl, ⟨Int.le_refl _, h2⟩, 11, by decide, by show (1024 : Int) = ((2 ^ 11 : Nat) : Int) / 2; rfl, by show v < 0 + ((2 ^ 11 : Nat) : Int); rw [show ((2 ^ 11 : Nat) : Int) = 2048 from rfl]; omega⟩ (by show ((1024 : Int) + 1).toNat < zBig; decide)
    obtain ⟨a, b, U⟩ := y
    obtain ⟨rfl, ha, k, k11, hb, hv⟩ := hJ
    simp only at ha hb hv ih
    show zP (L_X12_greatest_19 r p w (n + 1) a b U) _
    rw [L_X12_greatest_19.eq_2]
    cases k with
    | zero =>
      have e0 : ((2 ^ 0 : Nat) : Int) = 1 := rfl
      rw [e0] at hb hv
      rw [if_pos (by omega), zP_ret]
      exact ⟨by omega, rfl⟩
    | succ k =>
      have ep : ((2 ^ (k + 1) : Nat) : Int) = 2 * ((2 ^ k : Nat) : Int) := by
        rw [Nat.pow_succ]
        omega
      have p0 : 1 ≤ 2 ^ k := Nat.one_le_two_pow
      have pk : 2 ^ k ≤ 1024 := by
        have : 2 ^ k ≤ 2 ^ 10 := Nat.pow_le_pow_right (by decide) (by omega)
        omega
      rw [ep] at hb hv
      have eb : b = ((2 ^ k : Nat) : Int) := by omega
      rw [if_neg (by omega), zl_in (by omega), m_reaching hI r0 r1 hp hT, zb_some]
      unfold J_X12_greatest_47
      have q := h1 (a + b) (by omega)
      by_cases g : gHc S r s (a + b) < w
      · rw [if_pos g, zl_in (by omega), zg_in (by omega), zl_in (by omega)]
        have : ¬ a + b ≤ v := fun y => by
          have := q.mpr y
          omega
        exact ih (a + 0, b / 2, U) ⟨rfl, by show 0 ≤ a + 0 ∧ a + 0 ≤ v; omega, k, by omega, by show b / 2 = ((2 ^ k : Nat) : Int) / 2; rw [eb], by show v < a + 0 + ((2 ^ k : Nat) : Int); omega⟩ (by show (b / 2 + 1).toNat < (b + 1).toNat; omega)
      · have := q.mp (by omega)
        rw [if_neg g, zl_in (by omega), zg_in (by omega), zl_in (by omega)]
        exact ih (a + b, b / 2, U) ⟨rfl, by show 0 ≤ a + b ∧ a + b ≤ v; omega, k, by omega, by show b / 2 = ((2 ^ k : Nat) : Int) / 2; rw [eb], by show v < a + b + ((2 ^ k : Nat) : Int); omega⟩ (by show (b / 2 + 1).toNat < (b + 1).toNat; omega)
  · have := h1 0 (Int.le_refl 0)
    rw [if_pos this, zP_ret, h2]
    exact ⟨rfl, rfl⟩
end H2
