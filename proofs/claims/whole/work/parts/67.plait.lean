/-! braids: the reference plaits -/
def gT (k : Int) : Int := if k = 0 then 0 else if k % 3 = 1 then 0 else if k % 3 = 2 then 2 else 1
def gL (k v : Int) : Int := if k % 6 = 0 then v else if k % 6 = 1 then (if v = 0 then 1 else if v = 1 then 0 else 2) else if k % 6 = 2 then (if v = 0 then 2 else if v = 1 then 0 else 1) else if k % 6 = 3 then (if v = 0 then 2 else if v = 1 then 1 else 0) else if k % 6 = 4 then (if v = 0 then 1 else if v = 1 then 2 else 0) else (if v = 0 then 0 else if v = 1 then 2 else 1)
def gF (k : Int) : Int := if k % 2 = 1 then 0 else 2
def gS (f v : Int) : Int := if v = f then 1 else if v = 1 then f else v
theorem gT_r {k : Int} : 0 ≤ gT k ∧ gT k ≤ 2 := by
  unfold gT
  repeat' split
  all_goals omega
theorem gL_r {k v : Int} (hv : 0 ≤ v ∧ v ≤ 2) : 0 ≤ gL k v ∧ gL k v ≤ 2 := by
  unfold gL
  repeat' split
  all_goals omega
theorem gL_0 {v : Int} : gL 0 v = v := rfl
theorem gL_step {k v : Int} (hv : 0 ≤ v ∧ v ≤ 2) : gL k v = gS (gF k) (gL (k - 1) v) := by
  have h6 : k % 6 = 0 ∨ k % 6 = 1 ∨ k % 6 = 2 ∨ k % 6 = 3 ∨ k % 6 = 4 ∨ k % 6 = 5 := by omega
  have h3 : v = 0 ∨ v = 1 ∨ v = 2 := by omega
  unfold gL gS gF
  rcases h6 with h | h | h | h | h | h
  · rw [show (k - 1) % 6 = 5 by omega, show k % 2 = 0 by omega, h]
    rcases h3 with rfl | rfl | rfl <;> rfl
  · rw [show (k - 1) % 6 = 0 by omega, show k % 2 = 1 by omega, h]
    rcases h3 with rfl | rfl | rfl <;> rfl
  · rw [show (k - 1) % 6 = 1 by omega, show k % 2 = 0 by omega, h]
    rcases h3 with rfl | rfl | rfl <;> rfl
  · rw [show (k - 1) % 6 = 2 by omega, show k % 2 = 1 by omega, h]
    rcases h3 with rfl | rfl | rfl <;> rfl
  · rw [show (k - 1) % 6 = 3 by omega, show k % 2 = 0 by omega, h]
    rcases h3 with rfl | rfl | rfl <;> rfl
  · rw [show (k - 1) % 6 = 4 by omega, show k % 2 = 1 by omega, h]
    rcases h3 with rfl | rfl | rfl <;> rfl
theorem gL_take {k : Int} (hk : 1 ≤ k) : gL (k - 1) (gT k) = gF k := by
  have h6 : k % 6 = 0 ∨ k % 6 = 1 ∨ k % 6 = 2 ∨ k % 6 = 3 ∨ k % 6 = 4 ∨ k % 6 = 5 := by omega
  unfold gL gT gF
  rw [if_neg (show ¬ k = 0 by omega)]
  rcases h6 with h | h | h | h | h | h
  · rw [show (k - 1) % 6 = 5 by omega, show k % 2 = 0 by omega, show k % 3 = 0 by omega]
    rfl
  · rw [show (k - 1) % 6 = 0 by omega, show k % 2 = 1 by omega, show k % 3 = 1 by omega]
    rfl
  · rw [show (k - 1) % 6 = 1 by omega, show k % 2 = 0 by omega, show k % 3 = 2 by omega]
    rfl
  · rw [show (k - 1) % 6 = 2 by omega, show k % 2 = 1 by omega, show k % 3 = 0 by omega]
    rfl
  · rw [show (k - 1) % 6 = 3 by omega, show k % 2 = 0 by omega, show k % 3 = 1 by omega]
    rfl
  · rw [show (k - 1) % 6 = 4 by omega, show k % 2 = 1 by omega, show k % 3 = 2 by omega]
    rfl
section M2
variable {S : HS}
theorem rSame.rf {L : List Nat} {S : HS} : rSame L S S := fun _ _ => rfl
theorem m_joinsIn {r k f : Int} (h43 : 0 ≤ S 51 43 ∧ S 51 43 ≤ 60) (k0 : 0 ≤ k) (k1 : k < 192) : zP (M_X12_joinsIn r k f S) (fun _ T => rSame [85, 88] S T ∧ (∀ j : Int, T 85 j = if j = k then f else S 85 j) ∧ ∀ i : Int, 0 ≤ i → i < S 51 43 → T 88 i = if S 79 i = r ∧ S 80 i = k then f else S 88 i) := by
  unfold M_X12_joinsIn
  rw [zg_in ⟨k0, k1⟩, zs_in]
  refine zloop (b := S 51 43) (fun v T => (0 ≤ v ∧ v ≤ S 51 43) ∧ rSame [85, 88] S T ∧ (∀ j : Int, T 85 j = if j = k then f else S 85 j) ∧ ∀ i : Int, T 88 i = if (0 ≤ i ∧ i < v) ∧ S 79 i = r ∧ S 80 i = k then f else S 88 i) (fun n v T hJ hv => ?_) (fun n v T hJ hv ih => ?_) _ _ _ ⟨⟨Int.le_refl _, h43.1⟩, (rSame.rf (L := [85, 88]) (S := S)).up (by decide), fun j => up_same .., fun i => by rw [up_cell _ (by decide), if_neg (by omega)]⟩ (zbig (by omega))
  · obtain ⟨a, b, c, d⟩ := hJ
    have t51 : T 51 43 = S 51 43 := congrFun (b 51 (by decide)) 43
    rw [L_X12_joinsIn_10.eq_2, t51, if_pos hv, zP_ret]
    refine ⟨b, c, fun i i0 i1 => ?_⟩
    rw [d i]
    by_cases g : S 79 i = r ∧ S 80 i = k
    · rw [if_pos ⟨⟨i0, by omega⟩, g⟩, if_pos g]
    · rw [if_neg (fun q => g q.2), if_neg g]
  · obtain ⟨a, b, c, d⟩ := hJ
    have t51 : T 51 43 = S 51 43 := congrFun (b 51 (by decide)) 43
    have t79 : T 79 v = S 79 v := congrFun (b 79 (by decide)) v
    have t80 : T 80 v = S 80 v := congrFun (b 80 (by decide)) v
    have dv := d v
    rw [if_neg (by omega)] at dv
    have fin : ∀ t : Int, (t = if S 79 v = r ∧ S 80 v = k then f else S 88 v) → zP (J_X12_joinsIn_58 (L_X12_joinsIn_10 r k f n) r k f v t v T) (fun _ T => rSame [85, 88] S T ∧ (∀ j : Int, T 85 j = if j = k then f else S 85 j) ∧ ∀ i : Int, 0 ≤ i → i < S 51 43 → T 88 i = if S 79 i = r ∧ S 80 i = k then f else S 88 i) := by
      intro t ht
      unfold J_X12_joinsIn_58
      rw [zg_in (by omega), zs_in, zl_in (by omega)]
      refine ih _ ⟨by omega, b.up (by decide), fun j => ?_, fun i => ?_⟩
      · rw [up_cell _ (by decide)]
        exact c j
      · rw [up_same, d i]
        by_cases g : i = v
        · rw [if_pos g, ht, g]
          by_cases g2 : S 79 v = r ∧ S 80 v = k
          · rw [if_pos g2, if_pos ⟨by omega, g2⟩]
          · rw [if_neg g2, if_neg (fun q => g2 q.2)]
        · rw [if_neg g]
          by_cases g2 : (0 ≤ i ∧ i < v) ∧ S 79 i = r ∧ S 80 i = k
          · rw [if_pos g2, if_pos ⟨by omega, g2.2⟩]
          · rw [if_neg g2, if_neg (fun q => g2 ⟨by omega, q.2⟩)]
    rw [L_X12_joinsIn_10.eq_2, t51, if_neg (by omega), zg_in (by omega), t79]
    unfold J_X12_joinsIn_51
    by_cases g : S 79 v = r
    · rw [if_pos g, zg_in (by omega), t80]
      by_cases g2 : S 80 v = k
      · rw [if_pos g2]
        exact fin _ (by rw [if_pos ⟨g, g2⟩])
      · rw [if_neg g2, zg_in (by omega), dv]
        exact fin _ (by rw [if_neg (fun q => g2 q.2)])
    · rw [if_neg g, zg_in (by omega), dv]
      exact fin _ (by rw [if_neg (fun q => g q.1)])
theorem m_swaps {r k f : Int} (h43 : 0 ≤ S 51 43 ∧ S 51 43 ≤ 60) (k0 : 0 ≤ k) (k1 : k < 192) (hf : f = 0 ∨ f = 2) : zP (M_X12_swaps r k f 1 S) (fun _ T => rSame [84, 85, 87, 88] S T ∧ (∀ j : Int, T 84 j = if j = 3 * k + 1 then S 84 (3 * k + f) else if j = 3 * k + f then S 84 (3 * k + 1) else S 84 j) ∧ (∀ s : Int, 0 ≤ s → s ≤ k → T 85 s = gS f (S 85 s)) ∧ (∀ l : Int, 0 ≤ l → l < 3 → T 87 l = gS f (S 87 l)) ∧ ∀ i : Int, 0 ≤ i → i < S 51 43 → S 79 i = r → S 80 i ≤ k → T 88 i = gS f (S 88 i)) := by
  unfold M_X12_swaps
  rw [zg_in (by omega), zg_in (by omega), zg_in (by omega), zs_in, zg_in (by omega), zs_in]
  have w0 : ∀ j : Int, up (up S 84 (3 * k + f) (S 84 (3 * k + 1))) 84 (3 * k + 1) (S 84 (3 * k + f)) 84 j = if j = 3 * k + 1 then S 84 (3 * k + f) else if j = 3 * k + f then S 84 (3 * k + 1) else S 84 j := by
    intro j
    rw [up_same, up_same]
  refine zloop (b := k + 1) (fun v T => (0 ≤ v ∧ v ≤ k + 1) ∧ rSame [84, 85] S T ∧ (∀ j : Int, T 84 j = if j = 3 * k + 1 then S 84 (3 * k + f) else if j = 3 * k + f then S 84 (3 * k + 1) else S 84 j) ∧ ∀ s : Int, T 85 s = if 0 ≤ s ∧ s < v then gS f (S 85 s) else S 85 s) (fun n v T hJ hv => ?_) (fun n v T hJ hv ih => ?_) _ _ _ ⟨⟨Int.le_refl _, by omega⟩, ((rSame.rf (L := [84, 85]) (S := S)).up (by decide)).up (by decide), w0, fun s => by rw [up_cell _ (by decide), up_cell _ (by decide), if_neg (by omega)]⟩ (zbig (by omega))
  · obtain ⟨a, b, c, d⟩ := hJ
    rw [L_X12_swaps_49.eq_2, if_pos (by omega)]
    refine zloop (b := 3) (fun v U => (0 ≤ v ∧ v ≤ 3) ∧ rSame [87] T U ∧ ∀ l : Int, U 87 l = if 0 ≤ l ∧ l < v then gS f (S 87 l) else S 87 l) (fun n v U hJ hv => ?_) (fun n v U hJ hv ih => ?_) _ _ _ ⟨⟨Int.le_refl _, by omega⟩, fun _ _ => rfl, fun s => by rw [b 87 (by decide), if_neg (by omega)]⟩ (zbig (by omega))
    · obtain ⟨a2, b2, c2⟩ := hJ
      have u51 : U 51 43 = S 51 43 := (congrFun (b2 51 (by decide)) 43).trans (congrFun (b 51 (by decide)) 43)
      have u79 : U 79 = S 79 := (b2 79 (by decide)).trans (b 79 (by decide))
      have u80 : U 80 = S 80 := (b2 80 (by decide)).trans (b 80 (by decide))
      have u88 : U 88 = S 88 := (b2 88 (by decide)).trans (b 88 (by decide))
      rw [L_X12_swaps_110.eq_2, if_pos (by omega)]
      refine zloop (b := S 51 43) (fun v V => (0 ≤ v ∧ v ≤ S 51 43) ∧ rSame [88] U V ∧ ∀ i : Int, V 88 i = if (0 ≤ i ∧ i < v) ∧ S 79 i = r ∧ S 80 i ≤ k then gS f (S 88 i) else S 88 i) (fun n v V hJ hv => ?_) (fun n v V hJ hv ih => ?_) _ _ _ ⟨⟨Int.le_refl _, h43.1⟩, fun _ _ => rfl, fun s => by rw [u88, if_neg (by omega)]⟩ (zbig (by omega))
      · obtain ⟨a3, b3, c3⟩ := hJ
        have v51 : V 51 43 = S 51 43 := (congrFun (b3 51 (by decide)) 43).trans u51
        rw [L_X12_swaps_171.eq_2, v51, if_pos hv, zP_ret]
        refine ⟨fun x hx => ?_, fun j => ?_, fun s s0 s1 => ?_, fun l l0 l1 => ?_, fun i i0 i1 h79 h80 => ?_⟩
        · simp only [List.mem_cons, List.not_mem_nil, or_false, not_or] at hx
          rw [b3 x (by simp; omega), b2 x (by simp; omega), b x (by simp; omega)]
        · rw [b3 84 (by decide), b2 84 (by decide)]
          exact c j
        · rw [b3 85 (by decide), b2 85 (by decide), d s, if_pos (by omega)]
        · rw [b3 87 (by decide), c2 l, if_pos (by omega)]
        · rw [c3 i, if_pos ⟨by omega, h79, h80⟩]
      · obtain ⟨a3, b3, c3⟩ := hJ
        have v51 : V 51 43 = S 51 43 := (congrFun (b3 51 (by decide)) 43).trans u51
        have v79 : V 79 v = S 79 v := by rw [b3 79 (by decide), u79]
        have v80 : V 80 v = S 80 v := by rw [b3 80 (by decide), u80]
        have dv := c3 v
        rw [if_neg (by omega)] at dv
        have skip : ¬ (S 79 v = r ∧ S 80 v ≤ k) → ∀ i : Int, V 88 i = if (0 ≤ i ∧ i < v + 1) ∧ S 79 i = r ∧ S 80 i ≤ k then gS f (S 88 i) else S 88 i := by
          intro g i
          rw [c3 i]
          by_cases g2 : (0 ≤ i ∧ i < v) ∧ S 79 i = r ∧ S 80 i ≤ k
          · rw [if_pos g2, if_pos ⟨by omega, g2.2⟩]
          · rw [if_neg g2, if_neg]
            intro q
            by_cases e : i = v
            · subst e
              exact g q.2
            · exact g2 ⟨by omega, q.2⟩
        have fin : ∀ t : Int, t = gS f (S 88 v) → S 79 v = r → S 80 v ≤ k → zP (J_X12_swaps_247 (L_X12_swaps_171 r k f 1 n) r k f 1 v t v V) (fun _ T => rSame [84, 85, 87, 88] S T ∧ (∀ j : Int, T 84 j = if j = 3 * k + 1 then S 84 (3 * k + f) else if j = 3 * k + f then S 84 (3 * k + 1) else S 84 j) ∧ (∀ s : Int, 0 ≤ s → s ≤ k → T 85 s = gS f (S 85 s)) ∧ (∀ l : Int, 0 ≤ l → l < 3 → T 87 l = gS f (S 87 l)) ∧ ∀ i : Int, 0 ≤ i → i < S 51 43 → S 79 i = r → S 80 i ≤ k → T 88 i = gS f (S 88 i)) := by
          intro t ht g g2
          unfold J_X12_swaps_247 J_X12_swaps_248
          rw [zg_in (by omega), zs_in, zl_in (by omega)]
          refine ih _ ⟨by omega, b3.up (by decide), fun i => ?_⟩
          rw [up_same]
          by_cases e : i = v
          · rw [if_pos e, e, if_pos ⟨by omega, g, g2⟩, ht]
          · rw [if_neg e, c3 i]
            by_cases g2 : (0 ≤ i ∧ i < v) ∧ S 79 i = r ∧ S 80 i ≤ k
            · rw [if_pos g2, if_pos ⟨by omega, g2.2⟩]
            · rw [if_neg g2, if_neg (fun q => g2 ⟨by omega, q.2⟩)]
        rw [L_X12_swaps_171.eq_2, v51, if_neg (by omega), zg_in (by omega), v79]
        by_cases g : S 79 v = r
        · rw [if_pos g, zg_in (by omega), v80]
          by_cases g2 : k < S 80 v
          · rw [if_pos g2]
            unfold J_X12_swaps_248
            rw [zl_in (by omega)]
            exact ih _ ⟨by omega, b3, skip (fun q => by omega)⟩
          · rw [if_neg g2, zg_in (by omega), dv]
            by_cases g3 : S 88 v = f
            · rw [if_pos g3]
              exact fin _ (by unfold gS; rw [if_pos g3]) g (by omega)
            · rw [if_neg g3, zg_in (by omega)]
              by_cases g4 : S 88 v = 1
              · rw [if_pos g4]
                exact fin _ (by unfold gS; rw [if_neg g3, if_pos g4]) g (by omega)
              · rw [if_neg g4, zg_in (by omega)]
                exact fin _ (by unfold gS; rw [if_neg g3, if_neg g4]) g (by omega)
        · rw [if_neg g]
          unfold J_X12_swaps_248
          rw [zl_in (by omega)]
          exact ih _ ⟨by omega, b3, skip (fun q => g q.1)⟩
    · obtain ⟨a2, b2, c2⟩ := hJ
      have dv := c2 v
      rw [if_neg (by omega)] at dv
      have fin : ∀ (K : Int → HS → zO2) (t : Int) (Q : Int → HS → Prop), t = gS f (S 87 v) → (∀ S', ((0 ≤ v + 1 ∧ v + 1 ≤ 3) ∧ rSame [87] T S' ∧ ∀ l : Int, S' 87 l = if 0 ≤ l ∧ l < v + 1 then gS f (S 87 l) else S 87 l) → zP (K (v + 1) S') Q) → zP (J_X12_swaps_161 K r k f 1 v t v U) Q := by
        intro K t Q ht ih
        unfold J_X12_swaps_161
        rw [zg_in (by omega), zs_in, zl_in (by omega)]
        refine ih _ ⟨by omega, b2.up (by decide), fun i => ?_⟩
        rw [up_same]
        by_cases e : i = v
        · rw [if_pos e, e, if_pos (by omega), ht]
        · rw [if_neg e, c2 i]
          by_cases g2 : 0 ≤ i ∧ i < v
          · rw [if_pos g2, if_pos (by omega)]
          · rw [if_neg g2, if_neg (by omega)]
      rw [L_X12_swaps_110.eq_2, if_neg (by omega), zg_in (by omega), dv]
      by_cases g3 : S 87 v = f
      · rw [if_pos g3]
        exact fin _ _ _ (by unfold gS; rw [if_pos g3]) ih
      · rw [if_neg g3, zg_in (by omega)]
        by_cases g4 : S 87 v = 1
        · rw [if_pos g4]
          exact fin _ _ _ (by unfold gS; rw [if_neg g3, if_pos g4]) ih
        · rw [if_neg g4, zg_in (by omega)]
          exact fin _ _ _ (by unfold gS; rw [if_neg g3, if_neg g4]) ih
  · obtain ⟨a, b, c, d⟩ := hJ
    have dv := d v
    rw [if_neg (by omega)] at dv
    have fin : ∀ (K : Int → HS → zO2) (t : Int) (Q : Int → HS → Prop), t = gS f (S 85 v) → (∀ S', ((0 ≤ v + 1 ∧ v + 1 ≤ k + 1) ∧ rSame [84, 85] S S' ∧ (∀ j : Int, S' 84 j = if j = 3 * k + 1 then S 84 (3 * k + f) else if j = 3 * k + f then S 84 (3 * k + 1) else S 84 j) ∧ ∀ l : Int, S' 85 l = if 0 ≤ l ∧ l < v + 1 then gS f (S 85 l) else S 85 l) → zP (K (v + 1) S') Q) → zP (J_X12_swaps_100 K r k f 1 v t v T) Q := by
      intro K t Q ht ih
      unfold J_X12_swaps_100
      rw [zg_in (by omega), zs_in, zl_in (by omega)]
      refine ih _ ⟨by omega, b.up (by decide), fun j => ?_, fun i => ?_⟩
      · rw [up_cell _ (by decide)]
        exact c j
      · rw [up_same]
        by_cases e : i = v
        · rw [if_pos e, e, if_pos (by omega), ht]
        · rw [if_neg e, d i]
          by_cases g2 : 0 ≤ i ∧ i < v
          · rw [if_pos g2, if_pos (by omega)]
          · rw [if_neg g2, if_neg (by omega)]
    rw [L_X12_swaps_49.eq_2, if_neg (by omega), zg_in (by omega), dv]
    by_cases g3 : S 85 v = f
    · rw [if_pos g3]
      exact fin _ _ _ (by unfold gS; rw [if_pos g3]) ih
    · rw [if_neg g3, zg_in (by omega)]
      by_cases g4 : S 85 v = 1
      · rw [if_pos g4]
        exact fin _ _ _ (by unfold gS; rw [if_neg g3, if_pos g4]) ih
      · rw [if_neg g4, zg_in (by omega)]
        exact fin _ _ _ (by unfold gS; rw [if_neg g3, if_neg g4]) ih
end M2
