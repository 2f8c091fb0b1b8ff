/-! where it begins -/
section SF
theorem zWr_s {q : SC} {v : Int} (h : -1 ≤ v ∧ v ≤ 1000000000) : zWr q v := by
  unfold zWr
  split
  · split
    · unfold rng6
      omega
    · unfold rng
      omega
  · unfold rng
    omega
theorem b_up {S : HS} {c : Nat} {j v : Int} (h : ∀ (k : Nat) (i : Int), -1 ≤ S k i ∧ S k i ≤ 1000000000) (hv : -1 ≤ v ∧ v ≤ 1000000000) : ∀ (k : Nat) (i : Int), -1 ≤ up S c j v k i ∧ up S c j v k i ≤ 1000000000 := by
  intro k i
  rw [up_at]
  split
  · exact hv
  · exact h k i
theorem b_fill {S : HS} {c : Nat} {n v : Int} (h : ∀ (k : Nat) (i : Int), -1 ≤ S k i ∧ S k i ≤ 1000000000) (hv : -1 ≤ v ∧ v ≤ 1000000000) : ∀ (k : Nat) (i : Int), -1 ≤ zfill S c n v k i ∧ zfill S c n v k i ≤ 1000000000 := by
  intro k i
  rw [zfill_at]
  split
  · exact hv
  · exact h k i
theorem b_14 : ∀ (k : Nat) (i : Int), -1 ≤ hs14 k i ∧ hs14 k i ≤ 1000000000 := by
  unfold hs14 hs13 hs12 hs11 hs10 hs9 hs8 hs7 hs6 hs5 hs4 hs3 hs2 hs1
  exact b_up (b_up (b_up (b_up (b_up (b_up (b_fill (b_up (b_up (b_fill (b_up (b_fill (b_up (b_up (fun k i => by unfold hs0; omega) (by decide)) (by decide)) (by decide)) (by decide)) (by decide)) (by decide)) (by decide)) (by decide)) (by decide)) (by decide)) (by decide)) (by decide)) (by decide)) (by decide)
theorem w_14 : WR shF hs14 := fun k q _ i => zWr_s (b_14 k i)
theorem c14 (k : Nat) (i : Int) (h : k ∉ [1, 2, 4, 11, 34]) : hs14 k i = 0 := by
  simp only [List.mem_cons, List.not_mem_nil, or_false, not_or] at h
  obtain ⟨h1, h2, h4, h11, h34⟩ := h
  unfold hs14 hs13 hs12 hs11 hs10 hs9 hs8 hs7 hs6 hs5 hs4 hs3 hs2 hs1 hs0
  simp only [up_at, zfill_at]
  simp [h1, h2, h4, h11, h34]
theorem c14_2 {c : Int} (h : 0 ≤ c ∧ c < 192) : hs14 2 c = 10 := by
  unfold hs14 hs13 hs12 hs11 hs10 hs9 hs8 hs7 hs6 hs5 hs4 hs3
  simp only [up_at, zfill_at]
  simp [h]
theorem c14_4 {c : Int} (h : 0 ≤ c ∧ c < 412) : hs14 4 c = -1 := by
  unfold hs14 hs13 hs12 hs11 hs10 hs9 hs8 hs7 hs6 hs5
  simp only [up_at, zfill_at]
  simp [h]
theorem c14_11 {c : Int} (h : 0 ≤ c ∧ c < 192) : hs14 11 c = -1 := by
  unfold hs14 hs13 hs12 hs11 hs10 hs9 hs8
  simp only [up_at, zfill_at]
  simp [h]
theorem c14_1 : hs14 1 1 = 200 ∧ hs14 1 2 = 0 := by
  unfold hs14 hs13 hs12 hs11 hs10 hs9 hs8 hs7 hs6 hs5 hs4 hs3 hs2 hs1 hs0
  simp only [up_at, zfill_at]
  simp
theorem c14_34 : hs14 34 0 = 1 ∧ hs14 34 1 = 0 ∧ hs14 34 2 = 0 := by
  unfold hs14 hs13 hs12 hs11 hs10 hs9 hs8 hs7 hs6 hs5 hs4 hs3 hs2 hs1 hs0
  simp only [up_at, zfill_at]
  simp
theorem c25 {S : HS} (k : Nat) (h : k ∉ [51, 56, 67, 68, 89]) : hs25 S k = S k := by
  simp only [List.mem_cons, List.not_mem_nil, or_false, not_or] at h
  obtain ⟨h51, h56, h67, h68, h89⟩ := h
  funext i
  unfold hs25 hs24 hs23 miF hs22 hs21 hs20 hs19 hs18 hs17 hs16 hs15
  simp only [up_at]
  simp [h51, h56, h67, h68, h89]
theorem c25_51 {S : HS} (i : Int) : hs25 S 51 i = if i = 37 then 200 else S 51 i := by
  unfold hs25 hs24 hs23 miF hs22 hs21 hs20 hs19 hs18 hs17 hs16 hs15
  simp only [up_at]
  simp
theorem c25_67 {S : HS} {c : Int} (h : 0 ≤ c ∧ c < 192) : hs25 S 67 c = 10 ∧ hs25 S 68 c = -1 := by
  unfold hs25 hs24 hs23 miF
  simp only [up_at]
  simp [h]
theorem c25_89 {S : HS} : hs25 S 89 0 = 1 ∧ hs25 S 89 1 = S 89 1 ∧ hs25 S 89 2 = S 89 2 := by
  unfold hs25 hs24 hs23 miF hs22 hs21 hs20 hs19 hs18 hs17 hs16 hs15
  simp only [up_at]
  simp
theorem c25_56 {S : HS} : iWords (hs25 S) := by
  unfold iWords hs25 hs24 hs23 miF hs22 hs21 hs20 hs19 hs18 hs17 hs16 hs15
  simp only [up_at]
  simp
theorem w_25 {S : HS} (h : WR shF S) : WR shF (hs25 S) := by
  have u : ∀ {T : HS} {c : Nat} {i v : Int}, WR shF T → (-1 ≤ v ∧ v ≤ 1000000000) → WR shF (up T c i v) := by
    intro T c i v hT hv k q hk j
    rw [up_at]
    split
    · exact zWr_s hv
    · exact hT k q hk j
  unfold hs25 hs24 hs23 hs22 hs21 hs20 hs19 hs18 hs17 hs16 hs15
  refine u (u ?_ (by decide)) (by decide)
  have w : WR shF (up (up (up (up (up (up (up (up S 56 0 812503) 56 1 25220) 56 2 2230448) 56 3 919275859) 56 4 793) 56 5 224012) 56 6 614923) 56 7 34200674) := u (u (u (u (u (u (u (u h (by decide)) (by decide)) (by decide)) (by decide)) (by decide)) (by decide)) (by decide)) (by decide)
  intro k q hk j
  unfold miF
  split
  · exact zWr_s (by decide)
  · split
    · exact zWr_s (by decide)
    · exact w k q hk j
theorem begin_ok : ∃ (r0 : Int) (S1 : HS), M_X8_settle hs14 = some (r0, S1) ∧ (∀ (k : Nat) (i : Int), 51 ≤ k → S1 k i = 0) ∧ Inv (hs25 S1) := by
  have z := fun (k : Nat) (h : k ∉ [1, 2, 4, 11, 34]) (i : Int) => c14 k i h
  have hR : cRow hs14 := by
    have e7 := z 7 (by decide) 11
    refine ⟨by omega, fun r r0 r1 => by omega, fun r k r0 r1 => by omega, fun c c0 c1 => Or.inl (c14_11 ⟨c0, c1⟩)⟩
  have hH : cHair hs14 := fun c c0 c1 => by
    rw [c14_2 ⟨c0, c1⟩]
    decide
  obtain ⟨r0, S1, e, ⟨iE, iK⟩⟩ := e_settle8 w_14 hR hH
  obtain ⟨-, w1, f1⟩ := W_M_X8_settle w_14 r0 S1 e
  have s1 : ∀ k : Nat, k ∉ [17, 18, 19, 20, 21, 22] → S1 k = hs14 k := fun k hk => by
    simp only [List.mem_cons, List.not_mem_nil, or_false, not_or] at hk
    funext i
    exact f1 k i (by simp; omega) (by simp; omega)
  have s51 : ∀ (k : Nat) (i : Int), 51 ≤ k → S1 k i = 0 := fun k i hk => by
    rw [s1 k (by simp; omega)]
    exact z k (by simp; omega) i
  have f : ∀ k : Nat, k ∉ [17, 18, 19, 20, 21, 22, 51, 56, 67, 68, 89] → hs25 S1 k = hs14 k := fun k hk => by
    simp only [List.mem_cons, List.not_mem_nil, or_false, not_or] at hk
    rw [c25 k (by simp; omega), s1 k (by simp; omega)]
  have f0 : ∀ (k : Nat) (i : Int), k ∉ [17, 18, 19, 20, 21, 22, 51, 56, 67, 68, 89] → k ∉ [1, 2, 4, 11, 34] → hs25 S1 k i = 0 := fun k i h1 h2 => by
    rw [f k h1]
    exact z k h2 i
  have f51 : ∀ i : Int, i ≠ 37 → hs25 S1 51 i = 0 := fun i hi => by
    rw [c25_51, if_neg hi]
    exact s51 51 i (by decide)
  refine ⟨r0, S1, e, s51, w_25 w1, ?_⟩
  have g7 : hs25 S1 7 11 = 0 := f0 7 11 (by decide) (by decide)
  have g712 : hs25 S1 7 12 = 0 := f0 7 12 (by decide) (by decide)
  have g23 : hs25 S1 23 4 = 0 := f0 23 4 (by decide) (by decide)
  have g33 : hs25 S1 3 3 = 0 := f0 3 3 (by decide) (by decide)
  have g45 : hs25 S1 45 6 = 0 := f0 45 6 (by decide) (by decide)
  have g40 : hs25 S1 40 1 = 0 := f0 40 1 (by decide) (by decide)
  have g1 : hs25 S1 1 = hs14 1 := f 1 (by decide)
  have g2 : hs25 S1 2 = hs14 2 := f 2 (by decide)
  have g4 : hs25 S1 4 = hs14 4 := f 4 (by decide)
  have g11 : hs25 S1 11 = hs14 11 := f 11 (by decide)
  have g34 : hs25 S1 34 = hs14 34 := f 34 (by decide)
  refine ⟨?_, ?_, c25_56, ?_, ?_, ?_, ?_, ?_, ?_, ?_, ?_, ?_⟩
  · unfold iLen
    rw [g1, c14_1.1, c14_1.2, f51 38 (by decide), c25_51, if_pos rfl]
    decide
  · unfold iTape
    rw [g40, f51 2 (by decide)]
    exact ⟨rfl, by decide, by decide, fun i i0 i1 => by omega⟩
  · refine ⟨⟨fun c c0 c1 => ?_, fun s q0 q1 => ?_, fun s q0 q1 => ?_, fun s q0 q1 => ?_⟩, ?_, ?_, ?_⟩
    · rw [(c25_67 ⟨c0, c1⟩).1, g2, c14_2 ⟨c0, c1⟩]
      decide
    · rw [f0 63 s (by decide) (by decide), g4, c14_4 (by omega)]
      rfl
    · rw [f0 64 _ (by decide) (by decide), g4, c14_4 (by omega)]
      rfl
    · rw [g4, c14_4 ⟨q0, q1⟩, g33]
      decide
    · rw [f51 22 (by decide), g33]
    · omega
    · omega
  · refine iRow.mk ⟨by omega, fun r q0 q1 => by omega, fun r k q0 q1 => by omega, fun c c0 c1 => Or.inl (by rw [g11]; exact c14_11 ⟨c0, c1⟩)⟩ ⟨by rw [f51 27 (by decide), g7], fun r q0 q1 => by omega, fun r k q0 q1 => by omega, fun c c0 c1 => Or.inl ⟨by rw [g11]; exact c14_11 ⟨c0, c1⟩, (c25_67 ⟨c0, c1⟩).2⟩⟩
  · refine ⟨fun r q0 q1 => by omega, by rw [f51 54 (by decide), g712], by omega, ?_⟩
    rw [g712, g7]
    rfl
  · refine ⟨⟨by rw [f51 43 (by decide), g23], by omega, by omega⟩, fun i i0 i1 => by omega, fun c c0 c1 => ?_, fun r q0 q1 => by omega⟩
    rw [g23, f0 12 c (by decide) (by decide)]
    rfl
  · refine ⟨⟨by rw [f51 34 (by decide), g45], by omega, by omega⟩, fun i i0 i1 => by omega⟩
  · refine ⟨fun j j0 j1 => ?_, by rw [g34, c14_34.1]; decide⟩
    have hj : j = 0 ∨ j = 1 ∨ j = 2 := by omega
    obtain ⟨k1, k2, k3⟩ := c25_89 (S := S1)
    obtain ⟨l1, l2, l3⟩ := c14_34
    rcases hj with rfl | rfl | rfl
    · rw [g34, l1, k1]
      decide
    · rw [g34, l2, k2, s51 89 1 (by decide)]
      decide
    · rw [g34, l3, k3, s51 89 2 (by decide)]
      decide
  · unfold iReg at iE ⊢
    rw [c25 2 (by decide), c25 4 (by decide), c25 18 (by decide), c25 17 (by decide)]
    exact iE
  · unfold iTak cel at iK ⊢
    rw [c25 2 (by decide), c25 4 (by decide), c25 11 (by decide), c25 19 (by decide), c25 7 (by decide), c25 10 (by decide), c25 17 (by decide), c25 21 (by decide), c25 8 (by decide), c25 9 (by decide)]
    exact iK
  · intro r q0 q1
    omega
theorem law_ok (S : HS) (hI : Inv S) : LawOK Inv S := ⟨ok_0 hI, ok_1 hI, ok_2 hI, ok_3 hI, ok_4 hI, ok_5 hI, ok_6 hI, ok_7 hI, ok_8 hI, ok_9 hI, ok_10 hI, ok_11 hI, ok_12 hI, ok_13 hI, ok_14 hI, ok_15 hI, ok_16 hI, ok_17 hI, ok_18 hI, ok_19 hI, ok_20 hI, ok_21 hI, ok_22 hI, ok_23 hI, ok_24 hI, ok_25 hI⟩
theorem whole_start {p : Program} {e : Env} {s : State} {m : MethodId} {below : List Frame} {meth : Method} {c : Code} (l : Launch) (hflags : l.flags = flags0) {b L : Nat} {xs : Nat → Int32} (hL : L ≤ 3584) (C0 : lw_At p s m meth c b L xs) : W p l e room_1 s m #[Value.ref b] below meth c s.heap [] 0 0 (lw_Z below #[Value.ref b] s) (entryFrame m ([Value.ref b] : List Value).toArray 7) := by
  obtain ⟨r0, S1, h1, h2, h3⟩ := begin_ok
  exact whole_start_of (fun _ h => h.1) law_ok h1 h2 h3 l hflags hL C0
end SF
