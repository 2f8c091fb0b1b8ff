/-! a line is walked: all its ways -/
theorem zsum_mo {f : Int → Int} {m n : Nat} (h : ∀ i : Int, 0 ≤ i → i < n → 0 ≤ f i) (hm : m ≤ n) : zsum f m ≤ zsum f n := by
  induction n with
  | zero =>
    have e : m = 0 := by omega
    rw [e]
    exact Int.le_refl _
  | succ n ih =>
    by_cases e : m = n + 1
    · rw [e]
      exact Int.le_refl _
    · rw [zsum_s]
      have a := ih (fun i a b => h i a (by omega)) (by omega)
      have b := h n (by omega) (by omega)
      omega
theorem rLine_eq {c : Int → Int} {o : HS} {a x : Int} {k : Nat} {S T : HS} (h : rLine c o a x k) (hc : S 43 = c) (h57 : T 57 = o 57) (h58 : T 58 = o 58) (h59 : T 59 = o 59) (h60 : T 60 = o 60) : rLine (S 43) T a x k := by
  unfold rLine
  rw [hc, h57, h58, h59, h60]
  exact h
section WL
theorem e_code {S : HS} {q : Int} (h : 0 ≤ q ∧ q < S 42 3 ∧ S 42 3 ≤ 1000) : M_X7_codeAt q S = some (S 43 q, S) := by
  unfold M_X7_codeAt
  rw [if_neg (by omega), if_neg (by omega), if_neg (by omega), zg_in (by omega)]
def wFl (mir w : Int) : Int := if mir = 1 ∧ (w = 2 ∨ w = 3) then 5 - w else w
theorem m_way1 {T : HS} {x mir w V vx vy q : Int} {N : Nat} (hx : 0 ≤ x ∧ x < 1100) (hq : 0 ≤ q ∧ q < 1100) (hm : mir = 0 ∨ mir = 1) (hw : 0 ≤ w ∧ w ≤ 3) (hV : 0 ≤ V ∧ V ≤ 16) (h58 : T 58 q = gAcr w * V) (h59 : T 59 q = gDwn w * V) (h60 : q < T 60 x) : ∃ p9 p10 p11 : Int, L_X12_goes_81 x mir (N + 1) vx vy q T = L_X12_goes_183 (fun e6 e7 S38 => zl (q + 1) fun x39 => L_X12_goes_81 x mir N e6 e7 x39 S38) x mir q p9 p10 p11 zBig vx vy 0 T ∧ (1 ≤ V → p9 = gAcr (wFl mir w)) ∧ (1 ≤ V → p10 = gDwn (wFl mir w)) ∧ (p11 = V ∨ p11 = -V) := by
  rw [L_X12_goes_81.eq_2]
  unfold J_X12_goes_121 J_X12_goes_130 J_X12_goes_161
  rw [zg_in hx, if_neg (by omega), zg_in hq]
  by_cases v0 : V = 0
  · have a58 : T 58 q = 0 := by rw [h58, v0, Int.mul_zero]
    have a59 : T 59 q = 0 := by rw [h59, v0, Int.mul_zero]
    rw [if_pos a58, zg_in hq, if_pos a59, zg_in hq, zg_in hq, a58, a59, zl_in (by decide)]
    exact ⟨_, _, _, rfl, fun z => by omega, fun z => by omega, Or.inl (by omega)⟩
  · have c : w = 0 ∨ w = 1 ∨ w = 2 ∨ w = 3 := by omega
    rcases c with rfl | rfl | rfl | rfl
    · have a58 : T 58 q = 0 := by rw [h58]; show 0 * V = 0; omega
      have a59 : T 59 q = -V := by rw [h59]; show -1 * V = -V; omega
      rw [if_pos a58, zg_in hq, if_neg (by omega), zg_in hq, if_pos (by omega), zg_in hq, zg_in hq, a58, a59, zl_in (by omega)]
      refine ⟨_, _, _, rfl, fun _ => ?_, fun _ => ?_, Or.inr (by omega)⟩
      · unfold wFl
        rw [if_neg (by omega)]
        rfl
      · unfold wFl
        rw [if_neg (by omega)]
        rfl
    · have a58 : T 58 q = 0 := by rw [h58]; show 0 * V = 0; omega
      have a59 : T 59 q = V := by rw [h59]; show 1 * V = V; omega
      rw [if_pos a58, zg_in hq, if_neg (by omega), zg_in hq, if_neg (by omega), zg_in hq, zg_in hq, a58, a59, zl_in (by omega)]
      refine ⟨_, _, _, rfl, fun _ => ?_, fun _ => ?_, Or.inl (by omega)⟩
      · unfold wFl
        rw [if_neg (by omega)]
        rfl
      · unfold wFl
        rw [if_neg (by omega)]
        rfl
    · have a58 : T 58 q = -V := by rw [h58]; show -1 * V = -V; omega
      have a59 : T 59 q = 0 := by rw [h59]; show 0 * V = 0; omega
      rw [if_neg (by omega), zg_in hq, if_pos (by omega)]
      rcases hm with rfl | rfl
      · rw [if_pos rfl, zg_in hq, if_pos a59, zg_in hq, zg_in hq, a58, a59, zl_in (by omega)]
        refine ⟨_, _, _, rfl, fun _ => ?_, fun _ => ?_, Or.inr (by omega)⟩
        · unfold wFl
          rw [if_neg (by omega)]
          rfl
        · unfold wFl
          rw [if_neg (by omega)]
          rfl
      · rw [if_neg (by decide), zg_in hq, if_pos a59, zg_in hq, zg_in hq, a58, a59, zl_in (by omega)]
        refine ⟨_, _, _, rfl, fun _ => ?_, fun _ => ?_, Or.inr (by omega)⟩
        · unfold wFl
          rw [if_pos (by omega)]
          rfl
        · unfold wFl
          rw [if_pos (by omega)]
          rfl
    · have a58 : T 58 q = V := by rw [h58]; show 1 * V = V; omega
      have a59 : T 59 q = 0 := by rw [h59]; show 0 * V = 0; omega
      rw [if_neg (by omega), zg_in hq, if_neg (by omega)]
      rcases hm with rfl | rfl
      · rw [if_neg (by decide), zg_in hq, if_pos a59, zg_in hq, zg_in hq, a58, a59, zl_in (by omega)]
        refine ⟨_, _, _, rfl, fun _ => ?_, fun _ => ?_, Or.inl (by omega)⟩
        · unfold wFl
          rw [if_neg (by omega)]
          rfl
        · unfold wFl
          rw [if_neg (by omega)]
          rfl
      · rw [if_pos rfl, zg_in hq, if_pos a59, zg_in hq, zg_in hq, a58, a59, zl_in (by omega)]
        refine ⟨_, _, _, rfl, fun _ => ?_, fun _ => ?_, Or.inl (by omega)⟩
        · unfold wFl
          rw [if_pos (by omega)]
          rfl
        · unfold wFl
          rw [if_pos (by omega)]
          rfl
theorem e_way2 {S S' : HS} {a flip mir w V : Int} {v k N : Nat} (hf : mir = 0 ∧ flip = 1 ∨ mir = 1 ∧ flip = -1) (h0 : 0 ≤ a) (hk : v < k) (hs : a + 4 + 2 * k ≤ S 42 3 ∧ S 42 3 ≤ 1000) (h1 : S 43 (a + 4 + 2 * v) = w) (h2 : S 43 (a + 5 + 2 * v) = V) (hw : 0 ≤ w ∧ w ≤ 3) (e : M_X10_go (wFl mir w) V S = some (0, S')) : L_X4_walk_93 a flip k (N + 1) v S = L_X4_walk_93 a flip k N (v + 1 : Nat) S' := by
  have j : ∀ t0 : Int, t0 = wFl mir w → J_X4_walk_158 (L_X4_walk_93 a flip k N) a flip k v t0 S = L_X4_walk_93 a flip k N (v + 1 : Nat) S' := by
    intro t0 ht
    unfold J_X4_walk_158
    rw [zl_in (by omega), e_code (by omega), zb_some, h2, ht, e, zb_some, zl_in (by omega)]
    rfl
  rw [L_X4_walk_93.eq_2, if_neg (by omega), zl_in (by omega), e_code (by omega), zb_some, h1]
  unfold J_X4_walk_137 J_X4_walk_133 J_X4_walk_138
  rcases hf with ⟨rfl, rfl⟩ | ⟨rfl, rfl⟩
  · rw [if_pos (by decide), if_pos rfl]
    refine j w ?_
    unfold wFl
    rw [if_neg (by omega)]
  · rw [if_neg (by decide)]
    by_cases g2 : w = 2
    · rw [if_pos g2, if_neg (by decide), zl_in (by omega)]
      refine j _ ?_
      unfold wFl
      rw [if_pos (by omega)]
    · rw [if_neg g2]
      by_cases g3 : w = 3
      · rw [if_pos g3, if_neg (by decide), zl_in (by omega)]
        refine j _ ?_
        unfold wFl
        rw [if_pos (by omega)]
      · rw [if_neg g3, if_pos rfl]
        refine j _ ?_
        unfold wFl
        rw [if_neg (by omega)]
theorem wFl_r {mir w : Int} (hw : 0 ≤ w ∧ w ≤ 3) : 0 ≤ wFl mir w ∧ wFl mir w ≤ 3 := by
  unfold wFl
  split <;> omega
theorem ways_on {c : Int → Int} {o : HS} {W H a x flip mir : Int} {k : Nat} (hW : W = 17 ∧ H = 13 ∨ W = 16 ∧ H = 12) (hf : mir = 0 ∧ flip = 1 ∨ mir = 1 ∧ flip = -1) (hl : rLine c o a x k) (h0 : 0 ≤ a) (hx : 0 ≤ x ∧ x + 1 + k ≤ 1100) : ∀ (r v : Nat) (S T : HS) (vx vy : Int) (NC NM : Nat), v + r = k → r < NC → r < NM → S 43 = c → (a + 4 + 2 * k ≤ S 42 3 ∧ S 42 3 ≤ 1000) → T 58 = o 58 → T 59 = o 59 → T 60 = o 60 → wkR W H S T vx vy → T 51 19 + (zsum (fun j => c (a + 5 + 2 * j)) k - zsum (fun j => c (a + 5 + 2 * j)) v) ≤ 4001 → (-1000 - T 51 19 ≤ vx ∧ vx ≤ 1000 + T 51 19) → (-1000 - T 51 19 ≤ vy ∧ vy ≤ 1000 + T 51 19) → ∃ (S' T' : HS) (vx' vy' : Int), L_X4_walk_93 a flip k NC v S = some (0, S') ∧ L_X12_goes_81 x mir NM vx vy (x + 1 + v) T = some (0, T') ∧ wkR W H S' T' vx' vy' ∧ T' 51 19 ≤ 4001 ∧ zFr [47, 48] wkO S S' ∧ zFr [61, 62] [(51, 19)] T T' := by
  obtain ⟨l1, l2, l3, l4, l5, l6, l7⟩ := hl
  intro r
  induction r with
  | zero =>
    intro v S T vx vy NC NM hv hNC hNM hc hs e58 e59 e60 hR hT _ _
    obtain ⟨NC, rfl⟩ : ∃ N', NC = N' + 1 := ⟨NC - 1, by omega⟩
    obtain ⟨NM, rfl⟩ : ∃ N', NM = N' + 1 := ⟨NM - 1, by omega⟩
    have ek : v = k := by omega
    subst ek
    refine ⟨S, T, vx, vy, ?_, ?_, hR, by omega, zFr.rf, zFr.rf⟩
    · rw [L_X4_walk_93.eq_2, if_pos (by omega)]
    · rw [L_X12_goes_81.eq_2, zg_in (by omega), e60, if_pos (by omega)]
  | succ r ih =>
    intro v S T vx vy NC NM hv hNC hNM hc hs e58 e59 e60 hR hT hvx hvy
    obtain ⟨NC, rfl⟩ : ∃ N', NC = N' + 1 := ⟨NC - 1, by omega⟩
    obtain ⟨NM, rfl⟩ : ∃ N', NM = N' + 1 := ⟨NM - 1, by omega⟩
    obtain ⟨w0, V0, x58, x59⟩ := l6 v (by omega)
    have zs := zsum_s (f := fun j => c (a + 5 + 2 * j)) (n := v)
    have zm := zsum_mo (f := fun j => c (a + 5 + 2 * j)) (m := v + 1) (n := k) (fun i i0 i1 => by
      have z := (l6 i.toNat (by omega)).2.1
      rw [show ((i.toNat : Nat) : Int) = i by omega] at z
      exact z.1) (by omega)
    have zs' : zsum (fun j => c (a + 5 + 2 * j)) (v + 1) = zsum (fun j => c (a + 5 + 2 * j)) v + c (a + 5 + 2 * v) := zs
    have n1 := hR.1.1
    obtain ⟨p9, p10, p11, em, q9, q10, q11⟩ := m_way1 (T := T) (x := x) (mir := mir) (w := c (a + 4 + 2 * v)) (V := c (a + 5 + 2 * v)) (vx := vx) (vy := vy) (q := x + 1 + v) (N := NM) (by omega) (by omega) (by omega) w0 V0 (by rw [e58]; exact x58) (by rw [e59]; exact x59) (by rw [e60]; omega)
    obtain ⟨S1, T1, vx1, vy1, g1, g2, g3, g4, g5, g6, g7, g8⟩ := go_on (k253 := fun e6 e7 S38 => zl (x + 1 + v + 1) fun x39 => L_X12_goes_81 x mir NM e6 e7 x39 S38) (p1 := x) (p2 := mir) (p8 := x + 1 + v) hW (wFl_r (mir := mir) w0) q9 q10 V0 q11 (c (a + 5 + 2 * v)).toNat 0 S T vx vy zBig zBig (by omega) (by omega) (by have : zBig = 4294967296 := rfl; omega) (by have : zBig = 4294967296 := rfl; omega) hR (by omega) hvx hvy
    have ce := e_way2 (S := S) (S' := S1) (a := a) (flip := flip) (mir := mir) (w := c (a + 4 + 2 * v)) (V := c (a + 5 + 2 * v)) (v := v) (k := k) (N := NC) hf h0 (by omega) hs (by rw [hc]) (by rw [hc]) w0 g1
    have s3 : S1 42 3 = S 42 3 := g7 42 3 (by decide) (by decide)
    obtain ⟨S', T', vx', vy', h1, h2, h3, h4, h5, h6⟩ := ih (v + 1) S1 T1 vx1 vy1 NC NM (by omega) (by omega) (by omega) (by rw [g7.cell 43 (by decide) (by decide), hc]) (by omega) (by rw [g8.cell 58 (by decide) (by decide), e58]) (by rw [g8.cell 59 (by decide) (by decide), e59]) (by rw [g8.cell 60 (by decide) (by decide), e60]) g3 (by omega) g5 g6
    refine ⟨S', T', vx', vy', ce.trans h1, ?_, h3, h4, zFr.trans g7 h5, zFr.trans g8 h6⟩
    rw [em, g2]
    show zl (x + 1 + (v : Int) + 1) (fun x39 => L_X12_goes_81 x mir NM vx1 vy1 x39 T1) = some (0, T')
    rw [zl_in (by omega)]
    have e : x + 1 + (v : Int) + 1 = x + 1 + ((v + 1 : Nat) : Int) := by omega
    rw [e]
    exact h2
/-- both walk a line -/
theorem walk_on {S T : HS} {W H a x flip mir across dx dy K : Int} {k : Nat} (hW : K = 4 ∧ W = 17 ∧ H = 13 ∨ K = 5 ∧ W = 16 ∧ H = 12) (hK : S 43 a = K) (hf : mir = 0 ∧ flip = 1 ∧ across = dx ∨ mir = 1 ∧ flip = -1 ∧ across = dx + 16) (hl : rLine (S 43) T a x k) (h0 : 0 ≤ a) (hs : a + 4 + 2 * k ≤ S 42 3 ∧ S 42 3 ≤ 1000) (hx : 0 ≤ x ∧ x + 1 + k ≤ 1100) (hdx : -900 ≤ dx ∧ dx ≤ 900) (hdy : -900 ≤ dy ∧ dy ≤ 900) : ∃ (S' T' : HS) (vx vy : Int), M_X4_walk a flip across dy S = some (0, S') ∧ M_X12_goes x mir dx dy T = some (0, T') ∧ wkR W H S' T' vx vy ∧ T' 51 19 ≤ 4001 ∧ zFr [47, 48] wkO S S' ∧ zFr [61, 62] [(51, 19)] T T' := by
  have hl' := hl
  obtain ⟨l1, l2, l3, l4, l5, l6, l7⟩ := hl'
  have hr : (K = 4 ∧ W = 17 ∧ H = 13 ∧ T 57 x = 0 ∧ S 43 (a + 1) ≤ 16 ∧ S 43 (a + 2) ≤ 12) ∨ (K = 5 ∧ W = 16 ∧ H = 12 ∧ T 57 x = 1 ∧ S 43 (a + 1) ≤ 15 ∧ S 43 (a + 2) ≤ 11) := by
    rcases l1 with ⟨z1, z2, z3, z4⟩ | ⟨z1, z2, z3, z4⟩
    · left
      refine ⟨by omega, by omega, by omega, z2, z3, z4⟩
    · right
      refine ⟨by omega, by omega, by omega, z2, z3, z4⟩
  have hW' : W = 17 ∧ H = 13 ∨ W = 16 ∧ H = 12 := by omega
  -- where it begins
  generalize hX : (if mir = 0 then S 43 (a + 1) + dx else (if K = 4 then 16 else 15) - S 43 (a + 1) + dx) = X
  have rX : -920 ≤ X ∧ X ≤ 920 := by
    rw [← hX]
    split
    · omega
    · split <;> omega
  generalize hY : S 43 (a + 2) + dy = Y
  have rY : -920 ≤ Y ∧ Y ≤ 920 := by omega
  -- the reference
  have em : M_X12_goes x mir dx dy T = L_X12_goes_81 x mir zBig X Y (x + 1) (up (up (up T 51 19 1) 61 0 X) 62 0 Y) := by
    have j40 : ∀ t0 : Int, t0 + dx = X → -100 ≤ t0 ∧ t0 ≤ 100 → J_X12_goes_40 x mir dx dy t0 T = L_X12_goes_81 x mir zBig X Y (x + 1) (up (up (up T 51 19 1) 61 0 X) 62 0 Y) := by
      intro t0 ht hb
      unfold J_X12_goes_40
      rw [ht, zl_in (by omega), zg_in (by omega), l3.2, hY, zl_in (by omega), zs_in, zs_in, zs_in, zl_in (by omega)]
    have j16 : ∀ t0 : Int, t0 = (if K = 4 then 16 else 15) → J_X12_goes_16 x mir dx dy t0 T = L_X12_goes_81 x mir zBig X Y (x + 1) (up (up (up T 51 19 1) 61 0 X) 62 0 Y) := by
      intro t0 ht
      have tb : 15 ≤ t0 ∧ t0 ≤ 16 := by
        rw [ht]
        split <;> omega
      unfold J_X12_goes_16
      by_cases g : mir = 0
      · rw [if_pos g] at hX
        rw [if_pos g, zg_in (by omega), l2.2]
        exact j40 _ hX (by omega)
      · rw [if_neg g, ← ht] at hX
        rw [if_neg g, zg_in (by omega), l2.2, zl_in (by omega)]
        exact j40 _ hX (by omega)
    unfold M_X12_goes
    rw [zg_in (by omega)]
    rcases hr with ⟨z1, z2, z3, z4, -⟩ | ⟨z1, z2, z3, z4, -⟩
    · rw [if_pos z4]
      exact j16 16 (by rw [if_pos z1])
    · rw [if_neg (by omega)]
      exact j16 15 (by rw [if_neg (by omega)])
  -- the class
  generalize hA0 : up (up (up (up (up (up (up S 46 2 W) 46 3 H) 46 4 X) 46 5 Y) 46 6 0) 46 7 0) 46 8 0 = A0
  have fA0 : zFr [47, 48] wkO S A0 := by
    rw [← hA0]
    exact zfr_upO (zfr_upO (zfr_upO (zfr_upO (zfr_upO (zfr_upO (zfr_upO zFr.rf (by decide)) (by decide)) (by decide)) (by decide)) (by decide)) (by decide)) (by decide)
  have A2 : A0 46 2 = W := by
    rw [← hA0, up_same, if_neg (by decide), up_same, if_neg (by decide), up_same, if_neg (by decide), up_same, if_neg (by decide), up_same, if_neg (by decide), up_same, if_neg (by decide), up_eq]
  have A3 : A0 46 3 = H := by
    rw [← hA0, up_same, if_neg (by decide), up_same, if_neg (by decide), up_same, if_neg (by decide), up_same, if_neg (by decide), up_same, if_neg (by decide), up_eq]
  have A4 : A0 46 4 = X := by
    rw [← hA0, up_same, if_neg (by decide), up_same, if_neg (by decide), up_same, if_neg (by decide), up_same, if_neg (by decide), up_eq]
  have A5 : A0 46 5 = Y := by
    rw [← hA0, up_same, if_neg (by decide), up_same, if_neg (by decide), up_same, if_neg (by decide), up_eq]
  have A6 : A0 46 6 = 0 := by
    rw [← hA0, up_same, if_neg (by decide), up_same, if_neg (by decide), up_eq]
  have A7 : A0 46 7 = 0 := by
    rw [← hA0, up_same, if_neg (by decide), up_eq]
  obtain ⟨ra, A, eA, fA, ⟨q2, q3, q4, q5⟩, qi, qo⟩ := e_arrive (S := A0) (W := W) (H := H) (X := X) (Y := Y) (u := 0) (w := -1) hW' A2 A3 A4 A5 A6 (by decide) (by rw [A7]; rfl)
  have e43 : A 43 = S 43 := (fA.cell 43 (by decide) (by decide)).trans (fA0.cell 43 (by decide) (by decide))
  have e3 : A 42 3 = S 42 3 := (fA 42 3 (by decide) (by decide)).trans (fA0 42 3 (by decide) (by decide))
  have bz : zBig = 4294967296 := rfl
  have ec : M_X4_walk a flip across dy S = L_X4_walk_93 a flip k zBig 0 A := by
    have j27 : ∀ (U : HS) (h : Int), h = H → U = up S 46 2 W → J_X10_begin_27 X Y h U = some (0, A) := by
      intro U h eh eU
      unfold J_X10_begin_27
      rw [zs_in, zs_in, zs_in, zs_in, zs_in, zs_in, eh, eU, hA0, eA, zb_some]
    have bg : M_X10_begin (if K = 5 then 1 else 0) X Y S = some (0, A) := by
      unfold M_X10_begin J_X10_begin_12
      rcases hr with ⟨z1, z2, z3, -⟩ | ⟨z1, z2, z3, -⟩
      · rw [if_neg (show ¬ K = 5 by omega), if_pos rfl, zs_in, if_pos rfl, ← z2]
        exact j27 _ 13 z3.symm rfl
      · rw [if_pos (show K = 5 by omega), if_neg (by decide), zs_in, if_neg (by decide), ← z2]
        exact j27 _ 12 z3.symm rfl
    have j49 : ∀ v5 v6 t0 : Int, v5 = (if K = 5 then 1 else 0) → v6 - t0 = X → J_X4_walk_49 a flip dy v5 v6 t0 S = L_X4_walk_93 a flip k zBig 0 A := by
      intro v5 v6 t0 h5 h6
      unfold J_X4_walk_49
      have ey : dy + S 43 (a + 2) = Y := by omega
      rw [zl_in (by omega), e_code (by omega), zb_some, ey, zl_in (by omega), h6, zl_in (by omega), h5, bg, zb_some, zl_in (by omega), e_code (by rw [e3]; omega), zb_some, e43, l4]
    have j17 : ∀ t0 : Int, t0 = (if K = 5 then 1 else 0) → J_X4_walk_17 a flip across dy t0 S = L_X4_walk_93 a flip k zBig 0 A := by
      intro t0 ht
      unfold J_X4_walk_17 J_X4_walk_48
      rw [zl_in (by omega), e_code (by omega), zb_some]
      rcases hf with ⟨rfl, rfl, rfl⟩ | ⟨rfl, rfl, rfl⟩
      · rw [if_pos rfl] at hX
        rw [zl_in (by omega)]
        by_cases g : t0 = 0
        · rw [if_pos g]
          exact j49 _ _ _ ht (by omega)
        · rw [if_neg g, if_pos (by decide)]
          exact j49 _ _ _ ht (by omega)
      · rw [if_neg (by decide)] at hX
        rw [zl_in (by omega)]
        by_cases g : t0 = 0
        · rw [if_pos g]
          have k4 : K = 4 := by
            rw [g] at ht
            by_cases z : K = 5
            · rw [if_pos z] at ht
              omega
            · omega
          rw [if_pos k4] at hX
          exact j49 _ _ _ ht (by omega)
        · rw [if_neg g, if_neg (by decide)]
          have k5 : ¬ K = 4 := by
            intro z
            rw [if_neg (by omega)] at ht
            exact g ht
          have k5' : K = 5 := by omega
          rw [if_neg k5] at hX
          rw [if_pos k5'] at ht
          refine j49 _ _ _ ?_ (by omega)
          rw [ht, if_pos k5']
    unfold M_X4_walk
    rw [e_code (by omega), zb_some, hK]
    by_cases g : K = 5
    · rw [if_pos g]
      exact j17 1 (by rw [if_pos g])
    · rw [if_neg g]
      exact j17 0 (by rw [if_neg g])
  generalize hB : up (up (up T 51 19 1) 61 0 X) 62 0 Y = B at em
  have fB : zFr [61, 62] [(51, 19)] T B := by
    rw [← hB]
    exact zfr_up (zfr_up (zfr_upO zFr.rf (by decide)) (by decide)) (by decide)
  have B19 : B 51 19 = 1 := by rw [← hB, up_cell _ (by decide), up_cell _ (by decide), up_eq]
  have B61 : B 61 0 = X := by rw [← hB, up_cell _ (by decide), up_eq]
  have B62 : B 62 0 = Y := by rw [← hB, up_eq]
  have hR : wkR W H A B X Y := by
    refine ⟨⟨by omega, q2, q3⟩, ⟨by rw [B19]; exact B61, by rw [B19]; exact B62⟩, ?_, ?_, ?_, ?_⟩
    · by_cases g : pIn W H X Y
      · obtain ⟨x1, x2, -⟩ := qi g
        exact Or.inl ⟨x1, by omega, q4, q5⟩
      · obtain ⟨x1, x2, -⟩ := qo g
        refine Or.inr ⟨x1, by omega, ?_⟩
        rw [x2, B61, B62]
        exact g
    · intro j j0 j1
      by_cases g : pIn W H X Y
      · obtain ⟨x1, x2, -⟩ := qi g
        have ej : j = 0 := by omega
        rw [ej, B61, B62]
        exact g
      · obtain ⟨x1, x2, -⟩ := qo g
        omega
    · by_cases g : pIn W H X Y
      · obtain ⟨x1, x2, x3, -⟩ := qi g
        exact ⟨by omega, by rw [x3, x2]⟩
      · obtain ⟨x1, x2, x3, -⟩ := qo g
        exact ⟨by omega, by rw [x3, x2]⟩
    · intro j j0 j1
      by_cases g : pIn W H X Y
      · obtain ⟨x1, x2, x3, x4, x5⟩ := qi g
        have ej : j = 0 := by omega
        subst ej
        unfold wkS
        rw [B61, B62]
        exact ⟨(x5 (by decide)).1, fun z => by omega⟩
      · obtain ⟨x1, x2, x3, -⟩ := qo g
        omega
  have hl2 : rLine (S 43) T a x k := hl
  have z0 : zsum (fun j => S 43 (a + 5 + 2 * j)) 0 = 0 := rfl
  have e0 : x + 1 + ((0 : Nat) : Int) = x + 1 := by omega
  obtain ⟨S', T', vx, vy, h1, h2, h3, h4, h5, h6⟩ := ways_on (flip := flip) (mir := mir) hW' (by omega) hl2 h0 hx k 0 A B X Y zBig zBig (by omega) (by omega) (by omega) e43 (by omega) (fB.cell 58 (by decide) (by decide)) (fB.cell 59 (by decide) (by decide)) (fB.cell 60 (by decide) (by decide)) hR (by rw [B19, z0]; omega) (by omega) (by omega)
  rw [e0] at h2
  exact ⟨S', T', vx, vy, ec.trans h1, em.trans h2, h3, h4, zFr.trans fA0 (zFr.trans fA h5), zFr.trans fB h6⟩
end WL
