def J_X12_isSignOf_18 (S : HS) : zO2 :=
  some (1, S)
set_option maxHeartbeats 4000000 in
set_option maxRecDepth 20000 in
theorem TJ_X12_isSignOf_18 {S : HS} {r : Int} {S' : HS} {z : Zt} (hz : zO z cX12_isSignOf RX12 1 shF) (hN : zN z 1) (hF : zFi z shF .boolean r S') (hW : WR shF S) (h : J_X12_isSignOf_18 S = some (r, S')) : zA z 18 [] [] S := by
  unfold J_X12_isSignOf_18 at h
  refine s_iconst hz dX12_isSignOf_18 ?_
  refine s_goto 23 hz dX12_isSignOf_19 rfl ?_
  exact s_zret h hz hF (by decide) hW dX12_isSignOf_23
def M_X12_isSignOf (a1 : Int) (S : HS) : zO2 :=
  if a1 = 40 then (
    J_X12_isSignOf_18 S)
  else (
    if a1 = 41 then (
      J_X12_isSignOf_18 S)
    else (
      if a1 = 59 then (
        J_X12_isSignOf_18 S)
      else (
        some (0, S))))
set_option maxHeartbeats 4000000 in
set_option maxRecDepth 20000 in
theorem T_X12_isSignOf {a1 : Int} {S S' : HS} {r : Int} (ra1 : rng a1) (hW : WR shF S) (h : M_X12_isSignOf a1 S = some (r, S')) : zR shF yX12_isSignOf cX12_isSignOf 1  .boolean 1 [aI a1] S r S' := by
  refine zR_of (by decide +kernel) (Nat.le_of_ble_eq_true rfl) (fun z hz hN hF => ?_)
  have hz : zO z cX12_isSignOf RX12 1 shF := hz
  show zA z 0 [(0, aI a1)] [] S
  unfold M_X12_isSignOf at h
  refine s_iload_n 0 hz dX12_isSignOf_0 rfl ?_
  refine s_bipush hz dX12_isSignOf_1 bp_40 ?_
  refine s_icmp_eq 18 hz ra1 rl_40 dX12_isSignOf_3 rfl (fun c1 => ?_) (fun c1 => ?_)
  · have h := zif_t c1 h
    refine s_pick (l' := []) [] rfl ?_
    exact TJ_X12_isSignOf_18 hz hN hF hW h
  · have h := zif_f c1 h
    refine s_iload_n 0 hz dX12_isSignOf_6 rfl ?_
    refine s_bipush hz dX12_isSignOf_7 bp_41 ?_
    refine s_icmp_eq 18 hz ra1 rl_41 dX12_isSignOf_9 rfl (fun c2 => ?_) (fun c2 => ?_)
    · have h := zif_t c2 h
      refine s_pick (l' := []) [] rfl ?_
      exact TJ_X12_isSignOf_18 hz hN hF hW h
    · have h := zif_f c2 h
      refine s_iload_n 0 hz dX12_isSignOf_12 rfl ?_
      refine s_bipush hz dX12_isSignOf_13 bp_59 ?_
      refine s_icmp_ne 22 hz ra1 rl_59 dX12_isSignOf_15 rfl (fun c3 => ?_) (fun c3 => ?_)
      · have h := zif_f c3 h
        refine s_iconst hz dX12_isSignOf_22 ?_
        exact s_zret h hz hF (by decide) hW dX12_isSignOf_23
      · have h := zif_t c3 h
        refine s_pick (l' := []) [] rfl ?_
        exact TJ_X12_isSignOf_18 hz hN hF hW h
def J_X12_cutAll_44 (k17 : Int → Int → HS → zO2) (v1 : Int) (v2 : Int) (S : HS) : zO2 :=
  zl (v2 + 1) fun x6 =>
  k17 v1 x6 S
set_option maxHeartbeats 4000000 in
set_option maxRecDepth 20000 in
theorem TJ_X12_cutAll_44 {k17 : Int → Int → HS → zO2} {v1 : Int} {v2 : Int} {S : HS} {r : Int} {S' : HS} {z : Zt} (hz : zO z cX12_cutAll RX12 3 shF) (hN : zN z 7) (hF : zFv z shF S') (hk17 : ∀ (w1 w2 : Int) (S : HS), rng w1 → rng w2 → WR shF S → k17 w1 w2 S = some (r, S') → zA z 17 [(0, aR 51), (1, aI w1), (2, aI w2)] [] S) (rv1 : rng v1) (rv2 : rng v2) (hW : WR shF S) (h : J_X12_cutAll_44 k17 v1 v2 S = some (r, S')) : zA z 44 [(0, aR 51), (1, aI v1), (2, aI v2)] [] S := by
  unfold J_X12_cutAll_44 at h
  obtain ⟨x6, ex6, rx6, h⟩ := zl_ex h
  refine s_iinc (k0 := 2) (y := x6) (l' := [(2, aI x6), (0, aR 51), (1, aI v1)]) hz hN dX12_cutAll_44 rfl ex6.symm (by decide) rfl ?_
  refine s_goto 17 hz dX12_cutAll_47 rfl ?_
  refine s_pick (l' := [(0, aR 51), (1, aI v1), (2, aI x6)]) [1, 2, 0] rfl ?_
  exact hk17 _ _ _ rv1 rx6 hW h
def J_X12_cutAll_265 (k17 : Int → Int → HS → zO2) (v1 : Int) (v2 : Int) (v5 : Int) (S : HS) : zO2 :=
  zg ((0 : Int) ≤ v1 ∧ v1 < 1002) <|
  zs (up S 55 v1 v5) fun S23 =>
  zl (v1 + 1) fun x24 =>
  k17 x24 v2 S23
set_option maxHeartbeats 4000000 in
set_option maxRecDepth 20000 in
theorem TJ_X12_cutAll_265 {k17 : Int → Int → HS → zO2} {v1 : Int} {v2 : Int} {v5 : Int} {S : HS} {r : Int} {S' : HS} {z : Zt} (hz : zO z cX12_cutAll RX12 3 shF) (hN : zN z 7) (hF : zFv z shF S') (hk17 : ∀ (w1 w2 : Int) (S : HS), rng w1 → rng w2 → WR shF S → k17 w1 w2 S = some (r, S') → zA z 17 [(0, aR 51), (1, aI w1), (2, aI w2)] [] S) (rv1 : rng v1) (rv2 : rng v2) (rv5 : rng6 v5) (hW : WR shF S) (h : J_X12_cutAll_265 k17 v1 v2 v5 S = some (r, S')) : zA z 265 [(0, aR 51), (1, aI v1), (2, aI v2), (5, aL v5)] [] S := by
  unfold J_X12_cutAll_265 at h
  refine s_aload_n 0 hz dX12_cutAll_265 rfl ?_
  refine s_getR 6 hz fl_X12_30 sf51 rfl (by decide) dX12_cutAll_266 ?_
  refine s_iload_n 1 hz dX12_cutAll_269 rfl ?_
  refine s_lload 3 hz dX12_cutAll_270 rfl ?_
  obtain ⟨g22, h⟩ := zg_of h
  obtain ⟨S23, eS23, h⟩ := zs_ex h
  have hW23 : WR shF S23 := by rw [eS23]; exact hW.up (i := v1) sf55 (v := v5) rv5
  refine s_last hz sf55 rfl (by decide) g22 dX12_cutAll_272 ?_
  rw [← eS23]
  obtain ⟨x24, ex24, rx24, h⟩ := zl_ex h
  refine s_iinc (k0 := 1) (y := x24) (l' := [(1, aI x24), (0, aR 51), (2, aI v2), (5, aL v5)]) hz hN dX12_cutAll_273 rfl ex24.symm (by decide) rfl ?_
  refine s_goto 17 hz dX12_cutAll_276 rfl ?_
  refine s_pick (l' := [(0, aR 51), (1, aI x24), (2, aI v2)]) [1, 0, 2] rfl ?_
  exact hk17 _ _ _ rx24 rv2 hW23 h
def J_X12_cutAll_261 (k17 : Int → Int → HS → zO2) (v1 : Int) (v2 : Int) (v5 : Int) (t0 : Int) (t1 : Int) (S : HS) : zO2 :=
  zg ((0 : Int) ≤ t1 ∧ t1 < 1002) <|
  zs (up S 53 t1 t0) fun S20 =>
  zl (v2 + 1) fun x21 =>
  J_X12_cutAll_265 k17 v1 x21 v5 S20
set_option maxHeartbeats 4000000 in
set_option maxRecDepth 20000 in
theorem TJ_X12_cutAll_261 {k17 : Int → Int → HS → zO2} {v1 : Int} {v2 : Int} {v5 : Int} {t0 : Int} {t1 : Int} {S : HS} {r : Int} {S' : HS} {z : Zt} (hz : zO z cX12_cutAll RX12 3 shF) (hN : zN z 7) (hF : zFv z shF S') (hk17 : ∀ (w1 w2 : Int) (S : HS), rng w1 → rng w2 → WR shF S → k17 w1 w2 S = some (r, S') → zA z 17 [(0, aR 51), (1, aI w1), (2, aI w2)] [] S) (rv1 : rng v1) (rv2 : rng v2) (rv5 : rng6 v5) (rt0 : rng t0) (rt1 : rng t1) (hW : WR shF S) (h : J_X12_cutAll_261 k17 v1 v2 v5 t0 t1 S = some (r, S')) : zA z 261 [(0, aR 51), (1, aI v1), (2, aI v2), (5, aL v5)] [aI t0, aI t1, aR 53] S := by
  unfold J_X12_cutAll_261 at h
  obtain ⟨g19, h⟩ := zg_of h
  obtain ⟨S20, eS20, h⟩ := zs_ex h
  have hW20 : WR shF S20 := by rw [eS20]; exact hW.up (i := t1) sf53 (v := t0) rt0
  refine s_iast hz sf53 rfl (by decide) g19 dX12_cutAll_261 ?_
  rw [← eS20]
  obtain ⟨x21, ex21, rx21, h⟩ := zl_ex h
  refine s_iinc (k0 := 2) (y := x21) (l' := [(2, aI x21), (0, aR 51), (1, aI v1), (5, aL v5)]) hz hN dX12_cutAll_262 rfl ex21.symm (by decide) rfl ?_
  refine s_pick (l' := [(0, aR 51), (1, aI v1), (2, aI x21), (5, aL v5)]) [1, 2, 0, 3] rfl ?_
  exact TJ_X12_cutAll_265 hz hN hF hk17 rv1 rx21 rv5 hW20 h
def J_X12_cutAll_210 (k159 : Int → Int → HS → zO2) (v1 : Int) (v2 : Int) (v4 : Int) (t0 : Int) (S : HS) : zO2 :=
  zl (v2 + 1) fun x32 =>
  k159 x32 t0 S
set_option maxHeartbeats 4000000 in
set_option maxRecDepth 20000 in
theorem TJ_X12_cutAll_210 {k159 : Int → Int → HS → zO2} {v1 : Int} {v2 : Int} {v4 : Int} {t0 : Int} {S : HS} {r : Int} {S' : HS} {z : Zt} (hz : zO z cX12_cutAll RX12 3 shF) (hN : zN z 7) (hF : zFv z shF S') (hk159 : ∀ (w2 w5 : Int) (S : HS), rng w2 → rng6 w5 → WR shF S → k159 w2 w5 S = some (r, S') → zA z 159 [(0, aR 51), (1, aI v1), (2, aI w2), (4, aI v4), (5, aL w5)] [] S) (rv1 : rng v1) (rv2 : rng v2) (rv4 : rng v4) (rt0 : rng6 t0) (hW : WR shF S) (h : J_X12_cutAll_210 k159 v1 v2 v4 t0 S = some (r, S')) : zA z 210 [(0, aR 51), (1, aI v1), (2, aI v2), (4, aI v4)] [aL t0] S := by
  unfold J_X12_cutAll_210 at h
  refine s_lstore (l' := [(5, aL t0), (0, aR 51), (1, aI v1), (2, aI v2), (4, aI v4)]) hz hN dX12_cutAll_210 (by decide) rfl ?_
  obtain ⟨x32, ex32, rx32, h⟩ := zl_ex h
  refine s_iinc (k0 := 3) (y := x32) (l' := [(2, aI x32), (5, aL t0), (0, aR 51), (1, aI v1), (4, aI v4)]) hz hN dX12_cutAll_212 rfl ex32.symm (by decide) rfl ?_
  refine s_goto 159 hz dX12_cutAll_215 rfl ?_
  refine s_pick (l' := [(0, aR 51), (1, aI v1), (2, aI x32), (4, aI v4), (5, aL t0)]) [2, 3, 0, 4, 1] rfl ?_
  exact hk159 _ _ _ rx32 rt0 hW h
def L_X12_cutAll_159 (k218 : Int → Int → HS → zO2) (p1 : Int) (p4 : Int) : Nat → Int → Int → HS → zO2
  | 0, _, _, _ => none
  | n + 1, v2, v5, S => 
    if S 51 3 ≤ v2 then (
      k218 v2 v5 S)
    else (
      zg ((0 : Int) ≤ v2 ∧ v2 < 1000) <|
      zb (M_X12_isDigit (S 52 v2) S) fun r27 S28 =>
      if r27 = 0 then (
        k218 v2 v5 S28)
      else (
        zl (v2 - p4) fun x30 =>
        if 2 ≤ x30 then (
          J_X12_cutAll_210 (L_X12_cutAll_159 k218 p1 p4 n) p1 v2 p4 v5 S28)
        else (
          zg ((0 : Int) ≤ v2 ∧ v2 < 1000) <|
          zl6 (((10 * v5) + (S28 52 v2)) - 48) fun x34 =>
          J_X12_cutAll_210 (L_X12_cutAll_159 k218 p1 p4 n) p1 v2 p4 x34 S28)))
set_option maxHeartbeats 4000000 in
set_option maxRecDepth 20000 in
theorem TL_X12_cutAll_159 {k218 : Int → Int → HS → zO2} {p1 : Int} {p4 : Int} {r : Int} {S' : HS} {z : Zt} (hz : zO z cX12_cutAll RX12 3 shF) (hN : zN z 7) (hF : zFv z shF S') (hk218 : ∀ (w2 w5 : Int) (S : HS), rng w2 → rng6 w5 → WR shF S → k218 w2 w5 S = some (r, S') → zA z 218 [(0, aR 51), (1, aI p1), (2, aI w2), (4, aI p4), (5, aL w5)] [] S) (rp1 : rng p1) (rp4 : rng p4) : ∀ (n : Nat) {v2 : Int} {v5 : Int} {S : HS}, rng v2 → rng6 v5 → WR shF S → L_X12_cutAll_159 k218 p1 p4 n v2 v5 S = some (r, S') → zA z 159 [(0, aR 51), (1, aI p1), (2, aI v2), (4, aI p4), (5, aL v5)] [] S := by
  intro n
  induction n with
  | zero =>
    intro _ _ _ _ _ _ h
    cases h
  | succ n ih =>
    intro v2 v5 S rv2 rv5 hW h
    rw [L_X12_cutAll_159.eq_2] at h
    refine s_iload_n 2 hz dX12_cutAll_159 rfl ?_
    refine s_aload_n 0 hz dX12_cutAll_160 rfl ?_
    refine s_getI (kz := 3) 3 hz fl_X12_172 sf51 rfl rfl dX12_cutAll_161 ?_
    refine s_icmp_ge 218 hz rv2 (hW 51 _ sf51 3) dX12_cutAll_164 rfl (fun c25 => ?_) (fun c25 => ?_)
    · have h := zif_t c25 h
      exact hk218 _ _ _ rv2 rv5 hW h
    · have h := zif_f c25 h
      refine s_aload_n 0 hz dX12_cutAll_167 rfl ?_
      refine s_getR 1 hz fl_X12_14 sf51 rfl (by decide) dX12_cutAll_168 ?_
      refine s_iload_n 2 hz dX12_cutAll_171 rfl ?_
      obtain ⟨g26, h⟩ := zg_of h
      refine s_iald hz sf52 rfl (by decide) g26 dX12_cutAll_172 ?_
      obtain ⟨r27, S28, hc28, h⟩ := zb_of h
      refine s_callS [aI (S 52 v2)] [] hz ml_X12_181 ss_yX12_isDigit (T_X12_isDigit (hW 52 _ sf52 v2) hW hc28) (by decide) rfl rfl (Nat.le_of_ble_eq_true rfl) dX12_cutAll_173 (fun rr27 hW28 => ?_)
      refine s_if_eq 218 hz rr27 dX12_cutAll_176 rfl (fun c29 => ?_) (fun c29 => ?_)
      · have h := zif_t c29 h
        exact hk218 _ _ _ rv2 rv5 hW28 h
      · have h := zif_f c29 h
        refine s_iload_n 2 hz dX12_cutAll_179 rfl ?_
        refine s_iload 3 hz dX12_cutAll_180 rfl ?_
        refine s_isub hz dX12_cutAll_182 ?_
        refine s_iconst hz dX12_cutAll_183 ?_
        obtain ⟨x30, ex30, rx30, h⟩ := zl_ex h
        rw [← ex30]
        refine s_icmp_ge 208 hz rx30 rl_2 dX12_cutAll_184 rfl (fun c31 => ?_) (fun c31 => ?_)
        · have h := zif_t c31 h
          refine s_lload 4 hz dX12_cutAll_208 rfl ?_
          refine s_pick (l' := [(0, aR 51), (1, aI p1), (2, aI v2), (4, aI p4)]) [0, 1, 2, 3] rfl ?_
          exact TJ_X12_cutAll_210 hz hN hF (fun _ _ _ => ih) rp1 rv2 rp4 rv5 hW28 h
        · have h := zif_f c31 h
          refine s_ldc2 10 hz cn_X12_184 dX12_cutAll_187 ?_
          refine s_lload 4 hz dX12_cutAll_190 rfl ?_
          refine s_lmul hz dX12_cutAll_192 ?_
          refine s_aload_n 0 hz dX12_cutAll_193 rfl ?_
          refine s_getR 1 hz fl_X12_14 sf51 rfl (by decide) dX12_cutAll_194 ?_
          refine s_iload_n 2 hz dX12_cutAll_197 rfl ?_
          obtain ⟨g33, h⟩ := zg_of h
          refine s_iald hz sf52 rfl (by decide) g33 dX12_cutAll_198 ?_
          refine s_i2l hz (hW28 52 _ sf52 v2) dX12_cutAll_199 ?_
          refine s_ladd hz dX12_cutAll_200 ?_
          refine s_ldc2 48 hz cn_X12_186 dX12_cutAll_201 ?_
          refine s_lsub hz dX12_cutAll_204 ?_
          refine s_goto 210 hz dX12_cutAll_205 rfl ?_
          obtain ⟨x34, ex34, rx34, h⟩ := zl6_ex h
          rw [← ex34]
          refine s_pick (l' := [(0, aR 51), (1, aI p1), (2, aI v2), (4, aI p4)]) [0, 1, 2, 3] rfl ?_
          exact TJ_X12_cutAll_210 hz hN hF (fun _ _ _ => ih) rp1 rv2 rp4 rx34 hW28 h
def J_X12_cutAll_236 (k17 : Int → Int → HS → zO2) (v1 : Int) (v2 : Int) (v5 : Int) (t0 : Int) (t1 : Int) (S : HS) : zO2 :=
  zg ((0 : Int) ≤ t1 ∧ t1 < 1002) <|
  zs (up S 53 t1 t0) fun S39 =>
  J_X12_cutAll_265 k17 v1 v2 v5 S39
set_option maxHeartbeats 4000000 in
set_option maxRecDepth 20000 in
theorem TJ_X12_cutAll_236 {k17 : Int → Int → HS → zO2} {v1 : Int} {v2 : Int} {v5 : Int} {t0 : Int} {t1 : Int} {S : HS} {r : Int} {S' : HS} {z : Zt} (hz : zO z cX12_cutAll RX12 3 shF) (hN : zN z 7) (hF : zFv z shF S') (hk17 : ∀ (w1 w2 : Int) (S : HS), rng w1 → rng w2 → WR shF S → k17 w1 w2 S = some (r, S') → zA z 17 [(0, aR 51), (1, aI w1), (2, aI w2)] [] S) (rv1 : rng v1) (rv2 : rng v2) (rv5 : rng6 v5) (rt0 : rng t0) (rt1 : rng t1) (hW : WR shF S) (h : J_X12_cutAll_236 k17 v1 v2 v5 t0 t1 S = some (r, S')) : zA z 236 [(0, aR 51), (1, aI v1), (2, aI v2), (5, aL v5)] [aI t0, aI t1, aR 53] S := by
  unfold J_X12_cutAll_236 at h
  obtain ⟨g38, h⟩ := zg_of h
  obtain ⟨S39, eS39, h⟩ := zs_ex h
  have hW39 : WR shF S39 := by rw [eS39]; exact hW.up (i := t1) sf53 (v := t0) rt0
  refine s_iast hz sf53 rfl (by decide) g38 dX12_cutAll_236 ?_
  rw [← eS39]
  refine s_goto 265 hz dX12_cutAll_237 rfl ?_
  exact TJ_X12_cutAll_265 hz hN hF hk17 rv1 rv2 rv5 hW39 h
def J_X12_cutAll_218 (k17 : Int → Int → HS → zO2) (v1 : Int) (v2 : Int) (v4 : Int) (v5 : Int) (S : HS) : zO2 :=
  zl (v2 - v4) fun x36 =>
  if x36 ≤ 2 then (
    J_X12_cutAll_236 k17 v1 v2 v5 2 v1 S)
  else (
    J_X12_cutAll_236 k17 v1 v2 v5 4 v1 S)
set_option maxHeartbeats 4000000 in
set_option maxRecDepth 20000 in
theorem TJ_X12_cutAll_218 {k17 : Int → Int → HS → zO2} {v1 : Int} {v2 : Int} {v4 : Int} {v5 : Int} {S : HS} {r : Int} {S' : HS} {z : Zt} (hz : zO z cX12_cutAll RX12 3 shF) (hN : zN z 7) (hF : zFv z shF S') (hk17 : ∀ (w1 w2 : Int) (S : HS), rng w1 → rng w2 → WR shF S → k17 w1 w2 S = some (r, S') → zA z 17 [(0, aR 51), (1, aI w1), (2, aI w2)] [] S) (rv1 : rng v1) (rv2 : rng v2) (rv4 : rng v4) (rv5 : rng6 v5) (hW : WR shF S) (h : J_X12_cutAll_218 k17 v1 v2 v4 v5 S = some (r, S')) : zA z 218 [(0, aR 51), (1, aI v1), (2, aI v2), (4, aI v4), (5, aL v5)] [] S := by
  unfold J_X12_cutAll_218 at h
  refine s_aload_n 0 hz dX12_cutAll_218 rfl ?_
  refine s_getR 4 hz fl_X12_24 sf51 rfl (by decide) dX12_cutAll_219 ?_
  refine s_iload_n 1 hz dX12_cutAll_222 rfl ?_
  refine s_iload_n 2 hz dX12_cutAll_223 rfl ?_
  refine s_iload 3 hz dX12_cutAll_224 rfl ?_
  refine s_isub hz dX12_cutAll_226 ?_
  refine s_iconst hz dX12_cutAll_227 ?_
  obtain ⟨x36, ex36, rx36, h⟩ := zl_ex h
  rw [← ex36]
  refine s_icmp_le 235 hz rx36 rl_2 dX12_cutAll_228 rfl (fun c37 => ?_) (fun c37 => ?_)
  · have h := zif_t c37 h
    refine s_iconst hz dX12_cutAll_235 ?_
    refine s_pick (l' := [(0, aR 51), (1, aI v1), (2, aI v2), (5, aL v5)]) [0, 1, 2, 4] rfl ?_
    exact TJ_X12_cutAll_236 hz hN hF hk17 rv1 rv2 rv5 rl_2 rv1 hW h
  · have h := zif_f c37 h
    refine s_iconst hz dX12_cutAll_231 ?_
    refine s_goto 236 hz dX12_cutAll_232 rfl ?_
    refine s_pick (l' := [(0, aR 51), (1, aI v1), (2, aI v2), (5, aL v5)]) [0, 1, 2, 4] rfl ?_
    exact TJ_X12_cutAll_236 hz hN hF hk17 rv1 rv2 rv5 rl_4 rv1 hW h
def J_X12_cutAll_121 (k70 : Int → Int → HS → zO2) (v1 : Int) (v2 : Int) (v4 : Int) (t0 : Int) (S : HS) : zO2 :=
  zl (v2 + 1) fun x47 =>
  k70 x47 t0 S
set_option maxHeartbeats 4000000 in
set_option maxRecDepth 20000 in
theorem TJ_X12_cutAll_121 {k70 : Int → Int → HS → zO2} {v1 : Int} {v2 : Int} {v4 : Int} {t0 : Int} {S : HS} {r : Int} {S' : HS} {z : Zt} (hz : zO z cX12_cutAll RX12 3 shF) (hN : zN z 7) (hF : zFv z shF S') (hk70 : ∀ (w2 w5 : Int) (S : HS), rng w2 → rng6 w5 → WR shF S → k70 w2 w5 S = some (r, S') → zA z 70 [(0, aR 51), (1, aI v1), (2, aI w2), (4, aI v4), (5, aL w5)] [] S) (rv1 : rng v1) (rv2 : rng v2) (rv4 : rng v4) (rt0 : rng6 t0) (hW : WR shF S) (h : J_X12_cutAll_121 k70 v1 v2 v4 t0 S = some (r, S')) : zA z 121 [(0, aR 51), (1, aI v1), (2, aI v2), (4, aI v4)] [aL t0] S := by
  unfold J_X12_cutAll_121 at h
  refine s_lstore (l' := [(5, aL t0), (0, aR 51), (1, aI v1), (2, aI v2), (4, aI v4)]) hz hN dX12_cutAll_121 (by decide) rfl ?_
  obtain ⟨x47, ex47, rx47, h⟩ := zl_ex h
  refine s_iinc (k0 := 3) (y := x47) (l' := [(2, aI x47), (5, aL t0), (0, aR 51), (1, aI v1), (4, aI v4)]) hz hN dX12_cutAll_123 rfl ex47.symm (by decide) rfl ?_
  refine s_goto 70 hz dX12_cutAll_126 rfl ?_
  refine s_pick (l' := [(0, aR 51), (1, aI v1), (2, aI x47), (4, aI v4), (5, aL t0)]) [2, 3, 0, 4, 1] rfl ?_
  exact hk70 _ _ _ rx47 rt0 hW h
def L_X12_cutAll_70 (k129 : Int → Int → HS → zO2) (p1 : Int) (p4 : Int) : Nat → Int → Int → HS → zO2
  | 0, _, _, _ => none
  | n + 1, v2, v5, S => 
    if S 51 3 ≤ v2 then (
      k129 v2 v5 S)
    else (
      zg ((0 : Int) ≤ v2 ∧ v2 < 1000) <|
      zb (M_X12_isLetter (S 52 v2) S) fun r42 S43 =>
      if r42 = 0 then (
        k129 v2 v5 S43)
      else (
        zl (v2 - p4) fun x45 =>
        if 8 ≤ x45 then (
          J_X12_cutAll_121 (L_X12_cutAll_70 k129 p1 p4 n) p1 v2 p4 v5 S43)
        else (
          zg ((0 : Int) ≤ v2 ∧ v2 < 1000) <|
          zb (M_X12_rank (S43 52 v2) S43) fun r49 S50 =>
          zl6 ((37 * v5) + r49) fun x51 =>
          J_X12_cutAll_121 (L_X12_cutAll_70 k129 p1 p4 n) p1 v2 p4 x51 S50)))
set_option maxHeartbeats 4000000 in
set_option maxRecDepth 20000 in
theorem TL_X12_cutAll_70 {k129 : Int → Int → HS → zO2} {p1 : Int} {p4 : Int} {r : Int} {S' : HS} {z : Zt} (hz : zO z cX12_cutAll RX12 3 shF) (hN : zN z 7) (hF : zFv z shF S') (hk129 : ∀ (w2 w5 : Int) (S : HS), rng w2 → rng6 w5 → WR shF S → k129 w2 w5 S = some (r, S') → zA z 129 [(0, aR 51), (1, aI p1), (2, aI w2), (4, aI p4), (5, aL w5)] [] S) (rp1 : rng p1) (rp4 : rng p4) : ∀ (n : Nat) {v2 : Int} {v5 : Int} {S : HS}, rng v2 → rng6 v5 → WR shF S → L_X12_cutAll_70 k129 p1 p4 n v2 v5 S = some (r, S') → zA z 70 [(0, aR 51), (1, aI p1), (2, aI v2), (4, aI p4), (5, aL v5)] [] S := by
  intro n
  induction n with
  | zero =>
    intro _ _ _ _ _ _ h
    cases h
  | succ n ih =>
    intro v2 v5 S rv2 rv5 hW h
    rw [L_X12_cutAll_70.eq_2] at h
    refine s_iload_n 2 hz dX12_cutAll_70 rfl ?_
    refine s_aload_n 0 hz dX12_cutAll_71 rfl ?_
    refine s_getI (kz := 3) 3 hz fl_X12_172 sf51 rfl rfl dX12_cutAll_72 ?_
    refine s_icmp_ge 129 hz rv2 (hW 51 _ sf51 3) dX12_cutAll_75 rfl (fun c40 => ?_) (fun c40 => ?_)
    · have h := zif_t c40 h
      exact hk129 _ _ _ rv2 rv5 hW h
    · have h := zif_f c40 h
      refine s_aload_n 0 hz dX12_cutAll_78 rfl ?_
      refine s_getR 1 hz fl_X12_14 sf51 rfl (by decide) dX12_cutAll_79 ?_
      refine s_iload_n 2 hz dX12_cutAll_82 rfl ?_
      obtain ⟨g41, h⟩ := zg_of h
      refine s_iald hz sf52 rfl (by decide) g41 dX12_cutAll_83 ?_
      obtain ⟨r42, S43, hc43, h⟩ := zb_of h
      refine s_callS [aI (S 52 v2)] [] hz ml_X12_168 ss_yX12_isLetter (T_X12_isLetter (hW 52 _ sf52 v2) hW hc43) (by decide) rfl rfl (Nat.le_of_ble_eq_true rfl) dX12_cutAll_84 (fun rr42 hW43 => ?_)
      refine s_if_eq 129 hz rr42 dX12_cutAll_87 rfl (fun c44 => ?_) (fun c44 => ?_)
      · have h := zif_t c44 h
        exact hk129 _ _ _ rv2 rv5 hW43 h
      · have h := zif_f c44 h
        refine s_iload_n 2 hz dX12_cutAll_90 rfl ?_
        refine s_iload 3 hz dX12_cutAll_91 rfl ?_
        refine s_isub hz dX12_cutAll_93 ?_
        refine s_bipush hz dX12_cutAll_94 bp_8 ?_
        obtain ⟨x45, ex45, rx45, h⟩ := zl_ex h
        rw [← ex45]
        refine s_icmp_ge 119 hz rx45 rl_8 dX12_cutAll_96 rfl (fun c46 => ?_) (fun c46 => ?_)
        · have h := zif_t c46 h
          refine s_lload 4 hz dX12_cutAll_119 rfl ?_
          refine s_pick (l' := [(0, aR 51), (1, aI p1), (2, aI v2), (4, aI p4)]) [0, 1, 2, 3] rfl ?_
          exact TJ_X12_cutAll_121 hz hN hF (fun _ _ _ => ih) rp1 rv2 rp4 rv5 hW43 h
        · have h := zif_f c46 h
          refine s_ldc2 37 hz cn_X12_175 dX12_cutAll_99 ?_
          refine s_lload 4 hz dX12_cutAll_102 rfl ?_
          refine s_lmul hz dX12_cutAll_104 ?_
          refine s_aload_n 0 hz dX12_cutAll_105 rfl ?_
          refine s_getR 1 hz fl_X12_14 sf51 rfl (by decide) dX12_cutAll_106 ?_
          refine s_iload_n 2 hz dX12_cutAll_109 rfl ?_
          obtain ⟨g48, h⟩ := zg_of h
          refine s_iald hz sf52 rfl (by decide) g48 dX12_cutAll_110 ?_
          obtain ⟨r49, S50, hc50, h⟩ := zb_of h
          refine s_callS [aI (S43 52 v2)] [aL (37 * v5)] hz ml_X12_177 ss_yX12_rank (T_X12_rank (hW43 52 _ sf52 v2) hW43 hc50) (by decide) rfl rfl (Nat.le_of_ble_eq_true rfl) dX12_cutAll_111 (fun rr49 hW50 => ?_)
          refine s_i2l hz rr49 dX12_cutAll_114 ?_
          refine s_ladd hz dX12_cutAll_115 ?_
          refine s_goto 121 hz dX12_cutAll_116 rfl ?_
          obtain ⟨x51, ex51, rx51, h⟩ := zl6_ex h
          rw [← ex51]
          refine s_pick (l' := [(0, aR 51), (1, aI p1), (2, aI v2), (4, aI p4)]) [0, 1, 2, 3] rfl ?_
          exact TJ_X12_cutAll_121 hz hN hF (fun _ _ _ => ih) rp1 rv2 rp4 rx51 hW50 h
def J_X12_cutAll_148 (k17 : Int → Int → HS → zO2) (v1 : Int) (v2 : Int) (v5 : Int) (t0 : Int) (t1 : Int) (S : HS) : zO2 :=
  zg ((0 : Int) ≤ t1 ∧ t1 < 1002) <|
  zs (up S 53 t1 t0) fun S56 =>
  J_X12_cutAll_265 k17 v1 v2 v5 S56
set_option maxHeartbeats 4000000 in
set_option maxRecDepth 20000 in
theorem TJ_X12_cutAll_148 {k17 : Int → Int → HS → zO2} {v1 : Int} {v2 : Int} {v5 : Int} {t0 : Int} {t1 : Int} {S : HS} {r : Int} {S' : HS} {z : Zt} (hz : zO z cX12_cutAll RX12 3 shF) (hN : zN z 7) (hF : zFv z shF S') (hk17 : ∀ (w1 w2 : Int) (S : HS), rng w1 → rng w2 → WR shF S → k17 w1 w2 S = some (r, S') → zA z 17 [(0, aR 51), (1, aI w1), (2, aI w2)] [] S) (rv1 : rng v1) (rv2 : rng v2) (rv5 : rng6 v5) (rt0 : rng t0) (rt1 : rng t1) (hW : WR shF S) (h : J_X12_cutAll_148 k17 v1 v2 v5 t0 t1 S = some (r, S')) : zA z 148 [(0, aR 51), (1, aI v1), (2, aI v2), (5, aL v5)] [aI t0, aI t1, aR 53] S := by
  unfold J_X12_cutAll_148 at h
  obtain ⟨g55, h⟩ := zg_of h
  obtain ⟨S56, eS56, h⟩ := zs_ex h
  have hW56 : WR shF S56 := by rw [eS56]; exact hW.up (i := t1) sf53 (v := t0) rt0
  refine s_iast hz sf53 rfl (by decide) g55 dX12_cutAll_148 ?_
  rw [← eS56]
  refine s_goto 265 hz dX12_cutAll_149 rfl ?_
  exact TJ_X12_cutAll_265 hz hN hF hk17 rv1 rv2 rv5 hW56 h
def J_X12_cutAll_129 (k17 : Int → Int → HS → zO2) (v1 : Int) (v2 : Int) (v4 : Int) (v5 : Int) (S : HS) : zO2 :=
  zl (v2 - v4) fun x53 =>
  if x53 ≤ 8 then (
    J_X12_cutAll_148 k17 v1 v2 v5 1 v1 S)
  else (
    J_X12_cutAll_148 k17 v1 v2 v5 4 v1 S)
set_option maxHeartbeats 4000000 in
set_option maxRecDepth 20000 in
theorem TJ_X12_cutAll_129 {k17 : Int → Int → HS → zO2} {v1 : Int} {v2 : Int} {v4 : Int} {v5 : Int} {S : HS} {r : Int} {S' : HS} {z : Zt} (hz : zO z cX12_cutAll RX12 3 shF) (hN : zN z 7) (hF : zFv z shF S') (hk17 : ∀ (w1 w2 : Int) (S : HS), rng w1 → rng w2 → WR shF S → k17 w1 w2 S = some (r, S') → zA z 17 [(0, aR 51), (1, aI w1), (2, aI w2)] [] S) (rv1 : rng v1) (rv2 : rng v2) (rv4 : rng v4) (rv5 : rng6 v5) (hW : WR shF S) (h : J_X12_cutAll_129 k17 v1 v2 v4 v5 S = some (r, S')) : zA z 129 [(0, aR 51), (1, aI v1), (2, aI v2), (4, aI v4), (5, aL v5)] [] S := by
  unfold J_X12_cutAll_129 at h
  refine s_aload_n 0 hz dX12_cutAll_129 rfl ?_
  refine s_getR 4 hz fl_X12_24 sf51 rfl (by decide) dX12_cutAll_130 ?_
  refine s_iload_n 1 hz dX12_cutAll_133 rfl ?_
  refine s_iload_n 2 hz dX12_cutAll_134 rfl ?_
  refine s_iload 3 hz dX12_cutAll_135 rfl ?_
  refine s_isub hz dX12_cutAll_137 ?_
  refine s_bipush hz dX12_cutAll_138 bp_8 ?_
  obtain ⟨x53, ex53, rx53, h⟩ := zl_ex h
  rw [← ex53]
  refine s_icmp_le 147 hz rx53 rl_8 dX12_cutAll_140 rfl (fun c54 => ?_) (fun c54 => ?_)
  · have h := zif_t c54 h
    refine s_iconst hz dX12_cutAll_147 ?_
    refine s_pick (l' := [(0, aR 51), (1, aI v1), (2, aI v2), (5, aL v5)]) [0, 1, 2, 4] rfl ?_
    exact TJ_X12_cutAll_148 hz hN hF hk17 rv1 rv2 rv5 rl_1 rv1 hW h
  · have h := zif_f c54 h
    refine s_iconst hz dX12_cutAll_143 ?_
    refine s_goto 148 hz dX12_cutAll_144 rfl ?_
    refine s_pick (l' := [(0, aR 51), (1, aI v1), (2, aI v2), (5, aL v5)]) [0, 1, 2, 4] rfl ?_
    exact TJ_X12_cutAll_148 hz hN hF hk17 rv1 rv2 rv5 rl_4 rv1 hW h
def L_X12_cutAll_17 (k279 : Int → HS → zO2) : Nat → Int → Int → HS → zO2
  | 0, _, _, _ => none
  | n + 1, v1, v2, S => 
    if S 51 3 ≤ v2 then (
      k279 v1 S)
    else (
      zg ((0 : Int) ≤ v2 ∧ v2 < 1000) <|
      if S 52 v2 = 10 then (
        J_X12_cutAll_44 (L_X12_cutAll_17 k279 n) v1 v2 S)
      else (
        if S 52 v2 = 32 then (
          J_X12_cutAll_44 (L_X12_cutAll_17 k279 n) v1 v2 S)
        else (
          zg ((0 : Int) ≤ v1 ∧ v1 < 1002) <|
          zs (up S 54 v1 v2) fun S9 =>
          zb (M_X12_isLetter (S 52 v2) S9) fun r10 S11 =>
          if r10 = 0 then (
            zb (M_X12_isDigit (S 52 v2) S11) fun r13 S14 =>
            if r13 = 0 then (
              zb (M_X12_isSignOf (S 52 v2) S14) fun r16 S17 =>
              if r16 = 0 then (
                J_X12_cutAll_261 (L_X12_cutAll_17 k279 n) v1 v2 (S 52 v2) 4 v1 S17)
              else (
                J_X12_cutAll_261 (L_X12_cutAll_17 k279 n) v1 v2 (S 52 v2) 3 v1 S17))
            else (
              L_X12_cutAll_159 (fun e2 e5 S35 =>
                  J_X12_cutAll_218 (L_X12_cutAll_17 k279 n) v1 e2 v2 e5 S35) v1 v2 zBig v2 0 S14))
          else (
            L_X12_cutAll_70 (fun e2 e5 S52 =>
                J_X12_cutAll_129 (L_X12_cutAll_17 k279 n) v1 e2 v2 e5 S52) v1 v2 zBig v2 0 S11))))
set_option maxHeartbeats 4000000 in
set_option maxRecDepth 20000 in
theorem TL_X12_cutAll_17 {k279 : Int → HS → zO2} {r : Int} {S' : HS} {z : Zt} (hz : zO z cX12_cutAll RX12 3 shF) (hN : zN z 7) (hF : zFv z shF S') (hk279 : ∀ (w1 : Int) (S : HS), rng w1 → WR shF S → k279 w1 S = some (r, S') → zA z 279 [(0, aR 51), (1, aI w1)] [] S) : ∀ (n : Nat) {v1 : Int} {v2 : Int} {S : HS}, rng v1 → rng v2 → WR shF S → L_X12_cutAll_17 k279 n v1 v2 S = some (r, S') → zA z 17 [(0, aR 51), (1, aI v1), (2, aI v2)] [] S := by
  intro n
  induction n with
  | zero =>
    intro _ _ _ _ _ _ h
    cases h
  | succ n ih =>
    intro v1 v2 S rv1 rv2 hW h
    rw [L_X12_cutAll_17.eq_2] at h
    refine s_iload_n 2 hz dX12_cutAll_17 rfl ?_
    refine s_aload_n 0 hz dX12_cutAll_18 rfl ?_
    refine s_getI (kz := 3) 3 hz fl_X12_172 sf51 rfl rfl dX12_cutAll_19 ?_
    refine s_icmp_ge 279 hz rv2 (hW 51 _ sf51 3) dX12_cutAll_22 rfl (fun c3 => ?_) (fun c3 => ?_)
    · have h := zif_t c3 h
      refine s_pick (l' := [(0, aR 51), (1, aI v1)]) [0, 1] rfl ?_
      exact hk279 _ _ rv1 hW h
    · have h := zif_f c3 h
      refine s_aload_n 0 hz dX12_cutAll_25 rfl ?_
      refine s_getR 1 hz fl_X12_14 sf51 rfl (by decide) dX12_cutAll_26 ?_
      refine s_iload_n 2 hz dX12_cutAll_29 rfl ?_
      obtain ⟨g4, h⟩ := zg_of h
      refine s_iald hz sf52 rfl (by decide) g4 dX12_cutAll_30 ?_
      refine s_istore_n (l' := [(3, aI (S 52 v2)), (0, aR 51), (1, aI v1), (2, aI v2)]) hz hN dX12_cutAll_31 (by decide) rfl ?_
      refine s_iload_n 0 hz dX12_cutAll_32 rfl ?_
      refine s_bipush hz dX12_cutAll_33 bp_10 ?_
      refine s_icmp_eq 44 hz (hW 52 _ sf52 v2) rl_10 dX12_cutAll_35 rfl (fun c5 => ?_) (fun c5 => ?_)
      · have h := zif_t c5 h
        refine s_pick (l' := [(0, aR 51), (1, aI v1), (2, aI v2)]) [1, 2, 3] rfl ?_
        exact TJ_X12_cutAll_44 hz hN hF (fun _ _ _ => ih) rv1 rv2 hW h
      · have h := zif_f c5 h
        refine s_iload_n 0 hz dX12_cutAll_38 rfl ?_
        refine s_bipush hz dX12_cutAll_39 bp_32 ?_
        refine s_icmp_ne 50 hz (hW 52 _ sf52 v2) rl_32 dX12_cutAll_41 rfl (fun c7 => ?_) (fun c7 => ?_)
        · have h := zif_f c7 h
          refine s_iload_n 3 hz dX12_cutAll_50 rfl ?_
          refine s_istore (l' := [(4, aI v2), (3, aI (S 52 v2)), (0, aR 51), (1, aI v1), (2, aI v2)]) hz hN dX12_cutAll_51 (by decide) rfl ?_
          refine s_lconst hz dX12_cutAll_53 ?_
          refine s_lstore (l' := [(5, aL 0), (4, aI v2), (3, aI (S 52 v2)), (0, aR 51), (1, aI v1), (2, aI v2)]) hz hN dX12_cutAll_54 (by decide) rfl ?_
          refine s_aload_n 3 hz dX12_cutAll_56 rfl ?_
          refine s_getR 5 hz fl_X12_27 sf51 rfl (by decide) dX12_cutAll_57 ?_
          refine s_iload_n 4 hz dX12_cutAll_60 rfl ?_
          refine s_iload_n 5 hz dX12_cutAll_61 rfl ?_
          obtain ⟨g8, h⟩ := zg_of h
          obtain ⟨S9, eS9, h⟩ := zs_ex h
          have hW9 : WR shF S9 := by rw [eS9]; exact hW.up (i := v1) sf54 (v := v2) rv2
          refine s_iast hz sf54 rfl (by decide) g8 dX12_cutAll_62 ?_
          rw [← eS9]
          refine s_iload_n 2 hz dX12_cutAll_63 rfl ?_
          obtain ⟨r10, S11, hc11, h⟩ := zb_of h
          refine s_callS [aI (S 52 v2)] [] hz ml_X12_168 ss_yX12_isLetter (T_X12_isLetter (hW 52 _ sf52 v2) hW9 hc11) (by decide) rfl rfl (Nat.le_of_ble_eq_true rfl) dX12_cutAll_64 (fun rr10 hW11 => ?_)
          refine s_if_eq 152 hz rr10 dX12_cutAll_67 rfl (fun c12 => ?_) (fun c12 => ?_)
          · have h := zif_t c12 h
            refine s_iload_n 2 hz dX12_cutAll_152 rfl ?_
            obtain ⟨r13, S14, hc14, h⟩ := zb_of h
            refine s_callS [aI (S 52 v2)] [] hz ml_X12_181 ss_yX12_isDigit (T_X12_isDigit (hW 52 _ sf52 v2) hW11 hc14) (by decide) rfl rfl (Nat.le_of_ble_eq_true rfl) dX12_cutAll_153 (fun rr13 hW14 => ?_)
            refine s_if_eq 240 hz rr13 dX12_cutAll_156 rfl (fun c15 => ?_) (fun c15 => ?_)
            · have h := zif_t c15 h
              refine s_iload_n 2 hz dX12_cutAll_240 rfl ?_
              refine s_i2l hz (hW 52 _ sf52 v2) dX12_cutAll_241 ?_
              refine s_lstore (l' := [(5, aL (S 52 v2)), (4, aI v2), (3, aI (S 52 v2)), (0, aR 51), (1, aI v1), (2, aI v2)]) hz hN dX12_cutAll_242 (by decide) rfl ?_
              refine s_aload_n 3 hz dX12_cutAll_244 rfl ?_
              refine s_getR 4 hz fl_X12_24 sf51 rfl (by decide) dX12_cutAll_245 ?_
              refine s_iload_n 4 hz dX12_cutAll_248 rfl ?_
              refine s_iload_n 2 hz dX12_cutAll_249 rfl ?_
              obtain ⟨r16, S17, hc17, h⟩ := zb_of h
              refine s_callS [aI (S 52 v2)] [aI v1, aR 53] hz ml_X12_188 ss_yX12_isSignOf (T_X12_isSignOf (hW 52 _ sf52 v2) hW14 hc17) (by decide) rfl rfl (Nat.le_of_ble_eq_true rfl) dX12_cutAll_250 (fun rr16 hW17 => ?_)
              refine s_if_eq 260 hz rr16 dX12_cutAll_253 rfl (fun c18 => ?_) (fun c18 => ?_)
              · have h := zif_t c18 h
                refine s_iconst hz dX12_cutAll_260 ?_
                refine s_pick (l' := [(0, aR 51), (1, aI v1), (2, aI v2), (5, aL (S 52 v2))]) [3, 4, 5, 0] rfl ?_
                exact TJ_X12_cutAll_261 hz hN hF (fun _ _ _ => ih) rv1 rv2 (z_ri (hW 52 _ sf52 v2)) rl_4 rv1 hW17 h
              · have h := zif_f c18 h
                refine s_iconst hz dX12_cutAll_256 ?_
                refine s_goto 261 hz dX12_cutAll_257 rfl ?_
                refine s_pick (l' := [(0, aR 51), (1, aI v1), (2, aI v2), (5, aL (S 52 v2))]) [3, 4, 5, 0] rfl ?_
                exact TJ_X12_cutAll_261 hz hN hF (fun _ _ _ => ih) rv1 rv2 (z_ri (hW 52 _ sf52 v2)) rl_3 rv1 hW17 h
            · have h := zif_f c15 h
              refine s_pick (l' := [(0, aR 51), (1, aI v1), (2, aI v2), (4, aI v2), (5, aL 0)]) [3, 4, 5, 1, 0] rfl ?_
              refine TL_X12_cutAll_159 hz hN hF ?_ rv1 rv2 zBig rv2 (zrl6 rfl) hW14 h
              · clear h 
                intro e2 e5 S35 re2 re5 hW35 h
                exact TJ_X12_cutAll_218 hz hN hF (fun _ _ _ => ih) rv1 re2 rv2 re5 hW35 h
          · have h := zif_f c12 h
            refine s_pick (l' := [(0, aR 51), (1, aI v1), (2, aI v2), (4, aI v2), (5, aL 0)]) [3, 4, 5, 1, 0] rfl ?_
            refine TL_X12_cutAll_70 hz hN hF ?_ rv1 rv2 zBig rv2 (zrl6 rfl) hW11 h
            · clear h 
              intro e2 e5 S52 re2 re5 hW52 h
              exact TJ_X12_cutAll_129 hz hN hF (fun _ _ _ => ih) rv1 re2 rv2 re5 hW52 h
        · have h := zif_t c7 h
          refine s_pick (l' := [(0, aR 51), (1, aI v1), (2, aI v2)]) [1, 2, 3] rfl ?_
          exact TJ_X12_cutAll_44 hz hN hF (fun _ _ _ => ih) rv1 rv2 hW h
def M_X12_cutAll (S : HS) : zO2 :=
  zs (up S 51 3 (S 51 2)) fun S1 =>
  zs (up S1 51 2 0) fun S2 =>
  L_X12_cutAll_17 (fun e1 S57 =>
      zg ((0 : Int) ≤ e1 ∧ e1 < 1002) <|
      zs (up S57 53 e1 0) fun S59 =>
      zg ((0 : Int) ≤ e1 ∧ e1 < 1002) <|
      zs (up S59 54 e1 (S59 51 3)) fun S61 =>
      zs (up S61 51 7 0) fun S62 =>
      zs (up S62 51 8 0) fun S63 =>
      some (0, S63)) zBig 0 0 S2
set_option maxHeartbeats 4000000 in
set_option maxRecDepth 20000 in
theorem T_X12_cutAll {S S' : HS} {r : Int} (hW : WR shF S) (h : M_X12_cutAll S = some (r, S')) : zV shF yX12_cutAll cX12_cutAll 7 3 [aR 51] S S' := by
  refine zV_of (by decide +kernel) (Nat.le_of_ble_eq_true rfl) (fun z hz hN hF => ?_)
  have hz : zO z cX12_cutAll RX12 3 shF := hz
  show zA z 0 [(0, aR 51)] [] S
  unfold M_X12_cutAll at h
  refine s_aload_n 0 hz dX12_cutAll_0 rfl ?_
  refine s_aload_n 0 hz dX12_cutAll_1 rfl ?_
  refine s_getI (kz := 2) 2 hz fl_X12_11 sf51 rfl rfl dX12_cutAll_2 ?_
  obtain ⟨S1, eS1, h⟩ := zs_ex h
  have hW1 : WR shF S1 := by rw [eS1]; exact hW.up (i := 3) sf51 (v := (S 51 2)) (hW 51 _ sf51 2)
  refine s_putI (kz := 3) 3 hz fp_X12_172 sf51 rfl rfl dX12_cutAll_5 ?_
  rw [← eS1]
  refine s_aload_n 0 hz dX12_cutAll_8 rfl ?_
  refine s_iconst hz dX12_cutAll_9 ?_
  obtain ⟨S2, eS2, h⟩ := zs_ex h
  have hW2 : WR shF S2 := by rw [eS2]; exact hW1.up (i := 2) sf51 (v := 0) rl_0
  refine s_putI (kz := 2) 2 hz fp_X12_11 sf51 rfl rfl dX12_cutAll_10 ?_
  rw [← eS2]
  refine s_iconst hz dX12_cutAll_13 ?_
  refine s_istore_n (l' := [(1, aI 0), (0, aR 51)]) hz hN dX12_cutAll_14 (by decide) rfl ?_
  refine s_iconst hz dX12_cutAll_15 ?_
  refine s_istore_n (l' := [(2, aI 0), (1, aI 0), (0, aR 51)]) hz hN dX12_cutAll_16 (by decide) rfl ?_
  refine s_pick (l' := [(0, aR 51), (1, aI 0), (2, aI 0)]) [2, 1, 0] rfl ?_
  refine TL_X12_cutAll_17 hz hN hF ?_ zBig rl_0 rl_0 hW2 h
  · clear h 
    intro e1 S57 re1 hW57 h
    refine s_aload_n 0 hz dX12_cutAll_279 rfl ?_
    refine s_getR 4 hz fl_X12_24 sf51 rfl (by decide) dX12_cutAll_280 ?_
    refine s_iload_n 1 hz dX12_cutAll_283 rfl ?_
    refine s_iconst hz dX12_cutAll_284 ?_
    obtain ⟨g58, h⟩ := zg_of h
    obtain ⟨S59, eS59, h⟩ := zs_ex h
    have hW59 : WR shF S59 := by rw [eS59]; exact hW57.up (i := e1) sf53 (v := 0) rl_0
    refine s_iast hz sf53 rfl (by decide) g58 dX12_cutAll_285 ?_
    rw [← eS59]
    refine s_aload_n 0 hz dX12_cutAll_286 rfl ?_
    refine s_getR 5 hz fl_X12_27 sf51 rfl (by decide) dX12_cutAll_287 ?_
    refine s_iload_n 1 hz dX12_cutAll_290 rfl ?_
    refine s_aload_n 0 hz dX12_cutAll_291 rfl ?_
    refine s_getI (kz := 3) 3 hz fl_X12_172 sf51 rfl rfl dX12_cutAll_292 ?_
    obtain ⟨g60, h⟩ := zg_of h
    obtain ⟨S61, eS61, h⟩ := zs_ex h
    have hW61 : WR shF S61 := by rw [eS61]; exact hW59.up (i := e1) sf54 (v := (S59 51 3)) (hW59 51 _ sf51 3)
    refine s_iast hz sf54 rfl (by decide) g60 dX12_cutAll_295 ?_
    rw [← eS61]
    refine s_aload_n 0 hz dX12_cutAll_296 rfl ?_
    refine s_iconst hz dX12_cutAll_297 ?_
    obtain ⟨S62, eS62, h⟩ := zs_ex h
    have hW62 : WR shF S62 := by rw [eS62]; exact hW61.up (i := 7) sf51 (v := 0) rl_0
    refine s_putI (kz := 7) 7 hz fp_X12_191 sf51 rfl rfl dX12_cutAll_298 ?_
    rw [← eS62]
    refine s_aload_n 0 hz dX12_cutAll_301 rfl ?_
    refine s_iconst hz dX12_cutAll_302 ?_
    obtain ⟨S63, eS63, h⟩ := zs_ex h
    have hW63 : WR shF S63 := by rw [eS63]; exact hW62.up (i := 8) sf51 (v := 0) rl_0
    refine s_putI (kz := 8) 8 hz fp_X12_194 sf51 rfl rfl dX12_cutAll_303 ?_
    rw [← eS63]
    exact s_vret h hz hF hW63 dX12_cutAll_306
def J_X12_forgets_24 (k2 : Int → HS → zO2) (v1 : Int) (v2 : Int) (v3 : Int) (S : HS) : zO2 :=
  zl (v3 + 1) fun x5 =>
  k2 x5 S
set_option maxHeartbeats 4000000 in
set_option maxRecDepth 20000 in
theorem TJ_X12_forgets_24 {k2 : Int → HS → zO2} {v1 : Int} {v2 : Int} {v3 : Int} {S : HS} {r : Int} {S' : HS} {z : Zt} (hz : zO z cX12_forgets RX12 2 shF) (hN : zN z 4) (hF : zFv z shF S') (hk2 : ∀ (w3 : Int) (S : HS), rng w3 → WR shF S → k2 w3 S = some (r, S') → zA z 2 [(0, aR 51), (1, aI v1), (2, aI v2), (3, aI w3)] [] S) (rv1 : rng v1) (rv2 : rng v2) (rv3 : rng v3) (hW : WR shF S) (h : J_X12_forgets_24 k2 v1 v2 v3 S = some (r, S')) : zA z 24 [(0, aR 51), (1, aI v1), (2, aI v2), (3, aI v3)] [] S := by
  unfold J_X12_forgets_24 at h
  obtain ⟨x5, ex5, rx5, h⟩ := zl_ex h
  refine s_iinc (k0 := 3) (y := x5) (l' := [(3, aI x5), (0, aR 51), (1, aI v1), (2, aI v2)]) hz hN dX12_forgets_24 rfl ex5.symm (by decide) rfl ?_
  refine s_goto 2 hz dX12_forgets_27 rfl ?_
  refine s_pick (l' := [(0, aR 51), (1, aI v1), (2, aI v2), (3, aI x5)]) [1, 2, 3, 0] rfl ?_
  exact hk2 _ _ rx5 hW h
def L_X12_forgets_2 (k30 : HS → zO2) (p1 : Int) (p2 : Int) : Nat → Int → HS → zO2
  | 0, _, _ => none
  | n + 1, v3, S => 
    if 412 ≤ v3 then (
      k30 S)
    else (
      zb (M_X12_sideOf v3 S) fun r2 S3 =>
      if r2 ≤ p1 then (
        J_X12_forgets_24 (L_X12_forgets_2 k30 p1 p2 n) p1 p2 v3 S3)
      else (
        zb (M_X12_setSide v3 0 S3) fun _ S7 =>
        J_X12_forgets_24 (L_X12_forgets_2 k30 p1 p2 n) p1 p2 v3 S7))
set_option maxHeartbeats 4000000 in
set_option maxRecDepth 20000 in
theorem TL_X12_forgets_2 {k30 : HS → zO2} {p1 : Int} {p2 : Int} {r : Int} {S' : HS} {z : Zt} (hz : zO z cX12_forgets RX12 2 shF) (hN : zN z 4) (hF : zFv z shF S') (hk30 : ∀ (S : HS), WR shF S → k30 S = some (r, S') → zA z 30 [(0, aR 51), (1, aI p1), (2, aI p2)] [] S) (rp1 : rng p1) (rp2 : rng p2) : ∀ (n : Nat) {v3 : Int} {S : HS}, rng v3 → WR shF S → L_X12_forgets_2 k30 p1 p2 n v3 S = some (r, S') → zA z 2 [(0, aR 51), (1, aI p1), (2, aI p2), (3, aI v3)] [] S := by
  intro n
  induction n with
  | zero =>
    intro _ _ _ _ h
    cases h
  | succ n ih =>
    intro v3 S rv3 hW h
    rw [L_X12_forgets_2.eq_2] at h
    refine s_iload_n 3 hz dX12_forgets_2 rfl ?_
    refine s_sipush hz dX12_forgets_3 sp_412 ?_
    refine s_icmp_ge 30 hz rv3 rl_412 dX12_forgets_6 rfl (fun c1 => ?_) (fun c1 => ?_)
    · have h := zif_t c1 h
      refine s_pick (l' := [(0, aR 51), (1, aI p1), (2, aI p2)]) [0, 1, 2] rfl ?_
      exact hk30 _ hW h
    · have h := zif_f c1 h
      refine s_aload_n 0 hz dX12_forgets_9 rfl ?_
      refine s_iload_n 3 hz dX12_forgets_10 rfl ?_
      obtain ⟨r2, S3, hc3, h⟩ := zb_of h
      refine s_callV [aI v3] [] hz ml_X12_298 sv_yX12_sideOf (T_X12_sideOf rv3 hW hc3) (by decide) rfl sf51 rfl rfl (Nat.le_of_ble_eq_true rfl) dX12_forgets_11 (fun rr2 hW3 => ?_)
      refine s_iload_n 1 hz dX12_forgets_14 rfl ?_
      refine s_icmp_le 24 hz rr2 rp1 dX12_forgets_15 rfl (fun c4 => ?_) (fun c4 => ?_)
      · have h := zif_t c4 h
        exact TJ_X12_forgets_24 hz hN hF (fun _ _ => ih) rp1 rp2 rv3 hW3 h
      · have h := zif_f c4 h
        refine s_aload_n 0 hz dX12_forgets_18 rfl ?_
        refine s_iload_n 3 hz dX12_forgets_19 rfl ?_
        refine s_iconst hz dX12_forgets_20 ?_
        obtain ⟨r6, S7, hc7, h⟩ := zb_of h
        refine s_callVv [aI v3, aI 0] [] hz ml_X12_308 sv_yX12_setSide (T_X12_setSide rv3 rl_0 hW3 hc7) (by decide) rfl sf51 rfl rfl (Nat.le_of_ble_eq_true rfl) dX12_forgets_21 (fun hW7 => ?_)
        exact TJ_X12_forgets_24 hz hN hF (fun _ _ => ih) rp1 rp2 rv3 hW7 h
def J_X12_forgets_64 (k32 : Int → HS → zO2) (v1 : Int) (v2 : Int) (v3 : Int) (t0 : Int) (t1 : Int) (S : HS) : zO2 :=
  zg ((0 : Int) ≤ t1 ∧ t1 < 192) <|
  zs (up S 68 t1 t0) fun S14 =>
  zl (v3 + 1) fun x15 =>
  k32 x15 S14
set_option maxHeartbeats 4000000 in
set_option maxRecDepth 20000 in
theorem TJ_X12_forgets_64 {k32 : Int → HS → zO2} {v1 : Int} {v2 : Int} {v3 : Int} {t0 : Int} {t1 : Int} {S : HS} {r : Int} {S' : HS} {z : Zt} (hz : zO z cX12_forgets RX12 2 shF) (hN : zN z 4) (hF : zFv z shF S') (hk32 : ∀ (w3 : Int) (S : HS), rng w3 → WR shF S → k32 w3 S = some (r, S') → zA z 32 [(0, aR 51), (1, aI v1), (2, aI v2), (3, aI w3)] [] S) (rv1 : rng v1) (rv2 : rng v2) (rv3 : rng v3) (rt0 : rng t0) (rt1 : rng t1) (hW : WR shF S) (h : J_X12_forgets_64 k32 v1 v2 v3 t0 t1 S = some (r, S')) : zA z 64 [(0, aR 51), (1, aI v1), (2, aI v2), (3, aI v3)] [aI t0, aI t1, aR 68] S := by
  unfold J_X12_forgets_64 at h
  obtain ⟨g13, h⟩ := zg_of h
  obtain ⟨S14, eS14, h⟩ := zs_ex h
  have hW14 : WR shF S14 := by rw [eS14]; exact hW.up (i := t1) sf68 (v := t0) rt0
  refine s_iast hz sf68 rfl (by decide) g13 dX12_forgets_64 ?_
  rw [← eS14]
  obtain ⟨x15, ex15, rx15, h⟩ := zl_ex h
  refine s_iinc (k0 := 3) (y := x15) (l' := [(3, aI x15), (0, aR 51), (1, aI v1), (2, aI v2)]) hz hN dX12_forgets_65 rfl ex15.symm (by decide) rfl ?_
  refine s_goto 32 hz dX12_forgets_68 rfl ?_
  refine s_pick (l' := [(0, aR 51), (1, aI v1), (2, aI v2), (3, aI x15)]) [1, 2, 3, 0] rfl ?_
  exact hk32 _ _ rx15 hW14 h
def L_X12_forgets_32 (k71 : HS → zO2) (p1 : Int) (p2 : Int) : Nat → Int → HS → zO2
  | 0, _, _ => none
  | n + 1, v3, S => 
    if 192 ≤ v3 then (
      k71 S)
    else (
      zg ((0 : Int) ≤ v3 ∧ v3 < 192) <|
      if S 68 v3 < p2 then (
        zg ((0 : Int) ≤ v3 ∧ v3 < 192) <|
        J_X12_forgets_64 (L_X12_forgets_32 k71 p1 p2 n) p1 p2 v3 (S 68 v3) v3 S)
      else (
        J_X12_forgets_64 (L_X12_forgets_32 k71 p1 p2 n) p1 p2 v3 (-1) v3 S))
set_option maxHeartbeats 4000000 in
set_option maxRecDepth 20000 in
theorem TL_X12_forgets_32 {k71 : HS → zO2} {p1 : Int} {p2 : Int} {r : Int} {S' : HS} {z : Zt} (hz : zO z cX12_forgets RX12 2 shF) (hN : zN z 4) (hF : zFv z shF S') (hk71 : ∀ (S : HS), WR shF S → k71 S = some (r, S') → zA z 71 [(0, aR 51), (1, aI p1), (2, aI p2)] [] S) (rp1 : rng p1) (rp2 : rng p2) : ∀ (n : Nat) {v3 : Int} {S : HS}, rng v3 → WR shF S → L_X12_forgets_32 k71 p1 p2 n v3 S = some (r, S') → zA z 32 [(0, aR 51), (1, aI p1), (2, aI p2), (3, aI v3)] [] S := by
  intro n
  induction n with
  | zero =>
    intro _ _ _ _ h
    cases h
  | succ n ih =>
    intro v3 S rv3 hW h
    rw [L_X12_forgets_32.eq_2] at h
    refine s_iload_n 3 hz dX12_forgets_32 rfl ?_
    refine s_sipush hz dX12_forgets_33 sp_192 ?_
    refine s_icmp_ge 71 hz rv3 rl_192 dX12_forgets_36 rfl (fun c9 => ?_) (fun c9 => ?_)
    · have h := zif_t c9 h
      refine s_pick (l' := [(0, aR 51), (1, aI p1), (2, aI p2)]) [0, 1, 2] rfl ?_
      exact hk71 _ hW h
    · have h := zif_f c9 h
      refine s_aload_n 0 hz dX12_forgets_39 rfl ?_
      refine s_getR 29 hz fl_X12_87 sf51 rfl (by decide) dX12_forgets_40 ?_
      refine s_iload_n 3 hz dX12_forgets_43 rfl ?_
      refine s_aload_n 0 hz dX12_forgets_44 rfl ?_
      refine s_getR 29 hz fl_X12_87 sf51 rfl (by decide) dX12_forgets_45 ?_
      refine s_iload_n 3 hz dX12_forgets_48 rfl ?_
      obtain ⟨g10, h⟩ := zg_of h
      refine s_iald hz sf68 rfl (by decide) g10 dX12_forgets_49 ?_
      refine s_iload_n 2 hz dX12_forgets_50 rfl ?_
      refine s_icmp_lt 58 hz (hW 68 _ sf68 v3) rp2 dX12_forgets_51 rfl (fun c11 => ?_) (fun c11 => ?_)
      · have h := zif_t c11 h
        refine s_aload_n 0 hz dX12_forgets_58 rfl ?_
        refine s_getR 29 hz fl_X12_87 sf51 rfl (by decide) dX12_forgets_59 ?_
        refine s_iload_n 3 hz dX12_forgets_62 rfl ?_
        obtain ⟨g12, h⟩ := zg_of h
        refine s_iald hz sf68 rfl (by decide) g12 dX12_forgets_63 ?_
        exact TJ_X12_forgets_64 hz hN hF (fun _ _ => ih) rp1 rp2 rv3 (hW 68 _ sf68 v3) rv3 hW h
      · have h := zif_f c11 h
        refine s_iconst hz dX12_forgets_54 ?_
        refine s_goto 64 hz dX12_forgets_55 rfl ?_
        exact TJ_X12_forgets_64 hz hN hF (fun _ _ => ih) rp1 rp2 rv3 rl_m1 rv3 hW h
def M_X12_forgets (a1 : Int) (a2 : Int) (S : HS) : zO2 :=
  L_X12_forgets_2 (fun S8 =>
      L_X12_forgets_32 (fun S16 =>
          zs (up S16 51 22 a1) fun S17 =>
          zs (up S17 51 27 a2) fun S18 =>
          some (0, S18)) a1 a2 zBig 0 S8) a1 a2 zBig 0 S
set_option maxHeartbeats 4000000 in
set_option maxRecDepth 20000 in
theorem T_X12_forgets {a1 : Int} {a2 : Int} {S S' : HS} {r : Int} (ra1 : rng a1) (ra2 : rng a2) (hW : WR shF S) (h : M_X12_forgets a1 a2 S = some (r, S')) : zV shF yX12_forgets cX12_forgets 4 2 [aR 51, aI a1, aI a2] S S' := by
  refine zV_of (by decide +kernel) (Nat.le_of_ble_eq_true rfl) (fun z hz hN hF => ?_)
  have hz : zO z cX12_forgets RX12 2 shF := hz
  show zA z 0 [(0, aR 51), (1, aI a1), (2, aI a2)] [] S
  unfold M_X12_forgets at h
  refine s_iconst hz dX12_forgets_0 ?_
  refine s_istore_n (l' := [(3, aI 0), (0, aR 51), (1, aI a1), (2, aI a2)]) hz hN dX12_forgets_1 (by decide) rfl ?_
  refine s_pick (l' := [(0, aR 51), (1, aI a1), (2, aI a2), (3, aI 0)]) [1, 2, 3, 0] rfl ?_
  refine TL_X12_forgets_2 hz hN hF ?_ ra1 ra2 zBig rl_0 hW h
  · clear h 
    intro S8 hW8 h
    refine s_iconst hz dX12_forgets_30 ?_
    refine s_istore_n (l' := [(3, aI 0), (0, aR 51), (1, aI a1), (2, aI a2)]) hz hN dX12_forgets_31 (by decide) rfl ?_
    refine s_pick (l' := [(0, aR 51), (1, aI a1), (2, aI a2), (3, aI 0)]) [1, 2, 3, 0] rfl ?_
    refine TL_X12_forgets_32 hz hN hF ?_ ra1 ra2 zBig rl_0 hW8 h
    · clear h 
      intro S16 hW16 h
      refine s_aload_n 0 hz dX12_forgets_71 rfl ?_
      refine s_iload_n 1 hz dX12_forgets_72 rfl ?_
      obtain ⟨S17, eS17, h⟩ := zs_ex h
      have hW17 : WR shF S17 := by rw [eS17]; exact hW16.up (i := 22) sf51 (v := a1) ra1
      refine s_putI (kz := 22) 22 hz fp_X12_253 sf51 rfl rfl dX12_forgets_73 ?_
      rw [← eS17]
      refine s_aload_n 0 hz dX12_forgets_76 rfl ?_
      refine s_iload_n 2 hz dX12_forgets_77 rfl ?_
      obtain ⟨S18, eS18, h⟩ := zs_ex h
      have hW18 : WR shF S18 := by rw [eS18]; exact hW17.up (i := 27) sf51 (v := a2) ra2
      refine s_putI (kz := 27) 27 hz fp_X12_256 sf51 rfl rfl dX12_forgets_78 ?_
      rw [← eS18]
      exact s_vret h hz hF hW18 dX12_forgets_81
def J_X12_draw_43 (S : HS) : zO2 :=
  if S 51 8 ≤ 0 then (
    zs (up S 51 17 0) fun S9 =>
    zs (up S9 51 18 0) fun S10 =>
    zb (M_X12_draws 6 0 (S10 51 10) 0 0 0 S10) fun _ S12 =>
    if S12 51 17 ≤ 0 then (
      if S12 51 18 ≤ 0 then (
        some (0, S12))
      else (
        zg ((0 : Int) ≤ S12 51 34 ∧ S12 51 34 < 84) <|
        zs (up S12 73 (S12 51 34) (S 51 22)) fun S16 =>
        zg ((0 : Int) ≤ S16 51 34 ∧ S16 51 34 < 84) <|
        zs (up S16 74 (S16 51 34) (S 51 27)) fun S18 =>
        zl ((S18 51 34) + 1) fun x19 =>
        zs (up S18 51 34 x19) fun S20 =>
        some (0, S20)))
    else (
      zb (M_X12_forgets (S 51 22) (S 51 27) S12) fun _ S22 =>
      zl (((-1) - (S22 51 17)) - (16 * (S22 51 18))) fun x23 =>
      some (x23, S22)))
  else (
    some (S 51 8, S))
set_option maxHeartbeats 4000000 in
set_option maxRecDepth 20000 in
theorem TJ_X12_draw_43 {S : HS} {r : Int} {S' : HS} {z : Zt} (hz : zO z cX12_draw RX12 17 shF) (hN : zN z 3) (hF : zFi z shF .int r S') (hW : WR shF S) (h : J_X12_draw_43 S = some (r, S')) : zA z 43 [(0, aR 51)] [] S := by
  unfold J_X12_draw_43 at h
  refine s_aload_n 0 hz dX12_draw_43 rfl ?_
  refine s_getI (kz := 8) 8 hz fl_X12_194 sf51 rfl rfl dX12_draw_44 ?_
  refine s_if_le 55 hz (hW 51 _ sf51 8) dX12_draw_47 rfl (fun c8 => ?_) (fun c8 => ?_)
  · have h := zif_t c8 h
    refine s_aload_n 0 hz dX12_draw_55 rfl ?_
    refine s_getI (kz := 22) 22 hz fl_X12_253 sf51 rfl rfl dX12_draw_56 ?_
    refine s_istore_n (l' := [(1, aI (S 51 22)), (0, aR 51)]) hz hN dX12_draw_59 (by decide) rfl ?_
    refine s_aload_n 1 hz dX12_draw_60 rfl ?_
    refine s_getI (kz := 27) 27 hz fl_X12_256 sf51 rfl rfl dX12_draw_61 ?_
    refine s_istore_n (l' := [(2, aI (S 51 27)), (1, aI (S 51 22)), (0, aR 51)]) hz hN dX12_draw_64 (by decide) rfl ?_
    refine s_aload_n 2 hz dX12_draw_65 rfl ?_
    refine s_iconst hz dX12_draw_66 ?_
    obtain ⟨S9, eS9, h⟩ := zs_ex h
    have hW9 : WR shF S9 := by rw [eS9]; exact hW.up (i := 17) sf51 (v := 0) rl_0
    refine s_putI (kz := 17) 17 hz fp_X12_259 sf51 rfl rfl dX12_draw_67 ?_
    rw [← eS9]
    refine s_aload_n 2 hz dX12_draw_70 rfl ?_
    refine s_iconst hz dX12_draw_71 ?_
    obtain ⟨S10, eS10, h⟩ := zs_ex h
    have hW10 : WR shF S10 := by rw [eS10]; exact hW9.up (i := 18) sf51 (v := 0) rl_0
    refine s_putI (kz := 18) 18 hz fp_X12_262 sf51 rfl rfl dX12_draw_72 ?_
    rw [← eS10]
    refine s_aload_n 2 hz dX12_draw_75 rfl ?_
    refine s_iconst hz dX12_draw_76 ?_
    refine s_aload_n 2 hz dX12_draw_77 rfl ?_
    refine s_getI (kz := 10) 10 hz fl_X12_210 sf51 rfl rfl dX12_draw_78 ?_
    refine s_iconst hz dX12_draw_81 ?_
    refine s_iconst hz dX12_draw_82 ?_
    refine s_iconst hz dX12_draw_83 ?_
    obtain ⟨r11, S12, hc12, h⟩ := zb_of h
    refine s_callVv [aI 0, aI (S10 51 10), aI 0, aI 0, aI 0] [] hz ml_X12_265 sv_yX12_draws (T_X12_draws 6 rl_0 (hW10 51 _ sf51 10) rl_0 rl_0 rl_0 hW10 hc12) (by decide) rfl sf51 rfl rfl (Nat.le_of_ble_eq_true rfl) dX12_draw_84 (fun hW12 => ?_)
    refine s_aload_n 2 hz dX12_draw_87 rfl ?_
    refine s_getI (kz := 17) 17 hz fl_X12_259 sf51 rfl rfl dX12_draw_88 ?_
    refine s_if_le 115 hz (hW12 51 _ sf51 17) dX12_draw_91 rfl (fun c13 => ?_) (fun c13 => ?_)
    · have h := zif_t c13 h
      refine s_aload_n 2 hz dX12_draw_115 rfl ?_
      refine s_getI (kz := 18) 18 hz fl_X12_262 sf51 rfl rfl dX12_draw_116 ?_
      refine s_if_le 152 hz (hW12 51 _ sf51 18) dX12_draw_119 rfl (fun c14 => ?_) (fun c14 => ?_)
      · have h := zif_t c14 h
        refine s_iconst hz dX12_draw_152 ?_
        exact s_iret h hz hF rl_0 hW12 dX12_draw_153
      · have h := zif_f c14 h
        refine s_aload_n 2 hz dX12_draw_122 rfl ?_
        refine s_getR 35 hz fl_X12_102 sf51 rfl (by decide) dX12_draw_123 ?_
        refine s_aload_n 2 hz dX12_draw_126 rfl ?_
        refine s_getI (kz := 34) 34 hz fl_X12_273 sf51 rfl rfl dX12_draw_127 ?_
        refine s_iload_n 1 hz dX12_draw_130 rfl ?_
        obtain ⟨g15, h⟩ := zg_of h
        obtain ⟨S16, eS16, h⟩ := zs_ex h
        have hW16 : WR shF S16 := by rw [eS16]; exact hW12.up (i := (S12 51 34)) sf73 (v := (S 51 22)) (hW 51 _ sf51 22)
        refine s_iast hz sf73 rfl (by decide) g15 dX12_draw_131 ?_
        rw [← eS16]
        refine s_aload_n 2 hz dX12_draw_132 rfl ?_
        refine s_getR 36 hz fl_X12_105 sf51 rfl (by decide) dX12_draw_133 ?_
        refine s_aload_n 2 hz dX12_draw_136 rfl ?_
        refine s_getI (kz := 34) 34 hz fl_X12_273 sf51 rfl rfl dX12_draw_137 ?_
        refine s_iload_n 0 hz dX12_draw_140 rfl ?_
        obtain ⟨g17, h⟩ := zg_of h
        obtain ⟨S18, eS18, h⟩ := zs_ex h
        have hW18 : WR shF S18 := by rw [eS18]; exact hW16.up (i := (S16 51 34)) sf74 (v := (S 51 27)) (hW 51 _ sf51 27)
        refine s_iast hz sf74 rfl (by decide) g17 dX12_draw_141 ?_
        rw [← eS18]
        refine s_aload_n 2 hz dX12_draw_142 rfl ?_
        refine s_dup hz rfl dX12_draw_143 ?_
        refine s_getI (kz := 34) 34 hz fl_X12_273 sf51 rfl rfl dX12_draw_144 ?_
        refine s_iconst hz dX12_draw_147 ?_
        refine s_iadd hz dX12_draw_148 ?_
        obtain ⟨x19, ex19, rx19, h⟩ := zl_ex h
        rw [← ex19]
        obtain ⟨S20, eS20, h⟩ := zs_ex h
        have hW20 : WR shF S20 := by rw [eS20]; exact hW18.up (i := 34) sf51 (v := x19) rx19
        refine s_putI (kz := 34) 34 hz fp_X12_273 sf51 rfl rfl dX12_draw_149 ?_
        rw [← eS20]
        refine s_iconst hz dX12_draw_152 ?_
        exact s_iret h hz hF rl_0 hW20 dX12_draw_153
    · have h := zif_f c13 h
      refine s_aload_n 2 hz dX12_draw_94 rfl ?_
      refine s_iload_n 1 hz dX12_draw_95 rfl ?_
      refine s_iload_n 0 hz dX12_draw_96 rfl ?_
      obtain ⟨r21, S22, hc22, h⟩ := zb_of h
      refine s_callVv [aI (S 51 22), aI (S 51 27)] [] hz ml_X12_269 sv_yX12_forgets (T_X12_forgets (hW 51 _ sf51 22) (hW 51 _ sf51 27) hW12 hc22) (by decide) rfl sf51 rfl rfl (Nat.le_of_ble_eq_true rfl) dX12_draw_97 (fun hW22 => ?_)
      refine s_iconst hz dX12_draw_100 ?_
      refine s_aload_n 2 hz dX12_draw_101 rfl ?_
      refine s_getI (kz := 17) 17 hz fl_X12_259 sf51 rfl rfl dX12_draw_102 ?_
      refine s_isub hz dX12_draw_105 ?_
      refine s_bipush hz dX12_draw_106 bp_16 ?_
      refine s_aload_n 2 hz dX12_draw_108 rfl ?_
      refine s_getI (kz := 18) 18 hz fl_X12_262 sf51 rfl rfl dX12_draw_109 ?_
      refine s_imul hz dX12_draw_112 ?_
      refine s_isub hz dX12_draw_113 ?_
      obtain ⟨x23, ex23, rx23, h⟩ := zl_ex h
      rw [← ex23]
      exact s_iret h hz hF rx23 hW22 dX12_draw_114
  · have h := zif_f c8 h
    refine s_aload_n 0 hz dX12_draw_50 rfl ?_
    refine s_getI (kz := 8) 8 hz fl_X12_194 sf51 rfl rfl dX12_draw_51 ?_
    exact s_iret h hz hF (hW 51 _ sf51 8) hW dX12_draw_54
def M_X12_draw (S : HS) : zO2 :=
  zs (up S 51 0 0) fun S1 =>
  zb (M_X12_cutAll S1) fun _ S3 =>
  zs (up S3 51 10 0) fun S4 =>
  zb (M_X12_readSteps 6 0 S4) fun _ S6 =>
  if S6 51 8 = 0 then (
    zg ((0 : Int) ≤ S6 51 7 ∧ S6 51 7 < 1002) <|
    if S6 53 (S6 51 7) = 0 then (
      J_X12_draw_43 S6)
    else (
      zb (M_X12_wrong 1 S6) fun _ S27 =>
      J_X12_draw_43 S27))
  else (
    J_X12_draw_43 S6)
set_option maxHeartbeats 4000000 in
set_option maxRecDepth 20000 in
theorem T_X12_draw {S S' : HS} {r : Int} (hW : WR shF S) (h : M_X12_draw S = some (r, S')) : zR shF yX12_draw cX12_draw 3  .int 17 [aR 51] S r S' := by
  refine zR_of (by decide +kernel) (Nat.le_of_ble_eq_true rfl) (fun z hz hN hF => ?_)
  have hz : zO z cX12_draw RX12 17 shF := hz
  show zA z 0 [(0, aR 51)] [] S
  unfold M_X12_draw at h
  refine s_aload_n 0 hz dX12_draw_0 rfl ?_
  refine s_iconst hz dX12_draw_1 ?_
  obtain ⟨S1, eS1, h⟩ := zs_ex h
  have hW1 : WR shF S1 := by rw [eS1]; exact hW.up (i := 0) sf51 (v := 0) rl_0
  refine s_putI (kz := 0) 0 hz fp_X12_1 sf51 rfl rfl dX12_draw_2 ?_
  rw [← eS1]
  refine s_aload_n 0 hz dX12_draw_5 rfl ?_
  obtain ⟨r2, S3, hc3, h⟩ := zb_of h
  refine s_callVv [] [] hz ml_X12_250 sv_yX12_cutAll (T_X12_cutAll hW1 hc3) (by decide) rfl sf51 rfl rfl (Nat.le_of_ble_eq_true rfl) dX12_draw_6 (fun hW3 => ?_)
  refine s_aload_n 0 hz dX12_draw_9 rfl ?_
  refine s_iconst hz dX12_draw_10 ?_
  obtain ⟨S4, eS4, h⟩ := zs_ex h
  have hW4 : WR shF S4 := by rw [eS4]; exact hW3.up (i := 10) sf51 (v := 0) rl_0
  refine s_putI (kz := 10) 10 hz fp_X12_210 sf51 rfl rfl dX12_draw_11 ?_
  rw [← eS4]
  refine s_aload_n 0 hz dX12_draw_14 rfl ?_
  refine s_iconst hz dX12_draw_15 ?_
  obtain ⟨r5, S6, hc6, h⟩ := zb_of h
  refine s_callVv [aI 0] [] hz ml_X12_247 sv_yX12_readSteps (T_X12_readSteps 6 rl_0 hW4 hc6) (by decide) rfl sf51 rfl rfl (Nat.le_of_ble_eq_true rfl) dX12_draw_16 (fun hW6 => ?_)
  refine s_aload_n 0 hz dX12_draw_19 rfl ?_
  refine s_getI (kz := 8) 8 hz fl_X12_194 sf51 rfl rfl dX12_draw_20 ?_
  refine s_if_ne 43 hz (hW6 51 _ sf51 8) dX12_draw_23 rfl (fun c7 => ?_) (fun c7 => ?_)
  · have h := zif_f c7 h
    exact TJ_X12_draw_43 hz hN hF hW6 h
  · have h := zif_t c7 h
    refine s_aload_n 0 hz dX12_draw_26 rfl ?_
    refine s_getR 4 hz fl_X12_24 sf51 rfl (by decide) dX12_draw_27 ?_
    refine s_aload_n 0 hz dX12_draw_30 rfl ?_
    refine s_getI (kz := 7) 7 hz fl_X12_191 sf51 rfl rfl dX12_draw_31 ?_
    obtain ⟨g24, h⟩ := zg_of h
    refine s_iald hz sf53 rfl (by decide) g24 dX12_draw_34 ?_
    refine s_if_eq 43 hz (hW6 53 _ sf53 (S6 51 7)) dX12_draw_35 rfl (fun c25 => ?_) (fun c25 => ?_)
    · have h := zif_t c25 h
      exact TJ_X12_draw_43 hz hN hF hW6 h
    · have h := zif_f c25 h
      refine s_aload_n 0 hz dX12_draw_38 rfl ?_
      refine s_iconst hz dX12_draw_39 ?_
      obtain ⟨r26, S27, hc27, h⟩ := zb_of h
      refine s_callVv [aI 1] [] hz ml_X12_200 sv_yX12_wrong (T_X12_wrong rl_1 hW6 hc27) (by decide) rfl sf51 rfl rfl (Nat.le_of_ble_eq_true rfl) dX12_draw_40 (fun hW27 => ?_)
      exact TJ_X12_draw_43 hz hN hF hW27 h
def J_X12_timesAdded_28 (k4 : Int → Int → HS → zO2) (v1 : Int) (v3 : Int) (t0 : Int) (t1 : Int) (S : HS) : zO2 :=
  zl (t1 + t0) fun x4 =>
  zl (v3 + 1) fun x5 =>
  k4 x4 x5 S
set_option maxHeartbeats 4000000 in
set_option maxRecDepth 20000 in
theorem TJ_X12_timesAdded_28 {k4 : Int → Int → HS → zO2} {v1 : Int} {v3 : Int} {t0 : Int} {t1 : Int} {S : HS} {r : Int} {S' : HS} {z : Zt} (hz : zO z cX12_timesAdded RX12 1 shF) (hN : zN z 4) (hF : zFi z shF .int r S') (hk4 : ∀ (w2 w3 : Int) (S : HS), rng w2 → rng w3 → WR shF S → k4 w2 w3 S = some (r, S') → zA z 4 [(0, aR 51), (1, aI v1), (2, aI w2), (3, aI w3)] [] S) (rv1 : rng v1) (rv3 : rng v3) (rt0 : rng t0) (rt1 : rng t1) (hW : WR shF S) (h : J_X12_timesAdded_28 k4 v1 v3 t0 t1 S = some (r, S')) : zA z 28 [(0, aR 51), (1, aI v1), (3, aI v3)] [aI t0, aI t1] S := by
  unfold J_X12_timesAdded_28 at h
  refine s_iadd hz dX12_timesAdded_28 ?_
  obtain ⟨x4, ex4, rx4, h⟩ := zl_ex h
  rw [← ex4]
  refine s_istore_n (l' := [(2, aI x4), (0, aR 51), (1, aI v1), (3, aI v3)]) hz hN dX12_timesAdded_29 (by decide) rfl ?_
  obtain ⟨x5, ex5, rx5, h⟩ := zl_ex h
  refine s_iinc (k0 := 3) (y := x5) (l' := [(3, aI x5), (2, aI x4), (0, aR 51), (1, aI v1)]) hz hN dX12_timesAdded_30 rfl ex5.symm (by decide) rfl ?_
  refine s_goto 4 hz dX12_timesAdded_33 rfl ?_
  refine s_pick (l' := [(0, aR 51), (1, aI v1), (2, aI x4), (3, aI x5)]) [2, 3, 1, 0] rfl ?_
  exact hk4 _ _ _ rx4 rx5 hW h
def L_X12_timesAdded_4 (p1 : Int) : Nat → Int → Int → HS → zO2
  | 0, _, _, _ => none
  | n + 1, v2, v3, S => 
    if S 51 43 ≤ v3 then (
      some (v2, S))
    else (
      zg ((0 : Int) ≤ v3 ∧ v3 < 60) <|
      if S 79 v3 = p1 then (
        J_X12_timesAdded_28 (L_X12_timesAdded_4 p1 n) p1 v3 1 v2 S)
      else (
        J_X12_timesAdded_28 (L_X12_timesAdded_4 p1 n) p1 v3 0 v2 S))
set_option maxHeartbeats 4000000 in
set_option maxRecDepth 20000 in
theorem TL_X12_timesAdded_4 {p1 : Int} {r : Int} {S' : HS} {z : Zt} (hz : zO z cX12_timesAdded RX12 1 shF) (hN : zN z 4) (hF : zFi z shF .int r S') (rp1 : rng p1) : ∀ (n : Nat) {v2 : Int} {v3 : Int} {S : HS}, rng v2 → rng v3 → WR shF S → L_X12_timesAdded_4 p1 n v2 v3 S = some (r, S') → zA z 4 [(0, aR 51), (1, aI p1), (2, aI v2), (3, aI v3)] [] S := by
  intro n
  induction n with
  | zero =>
    intro _ _ _ _ _ _ h
    cases h
  | succ n ih =>
    intro v2 v3 S rv2 rv3 hW h
    rw [L_X12_timesAdded_4.eq_2] at h
    refine s_iload_n 3 hz dX12_timesAdded_4 rfl ?_
    refine s_aload_n 0 hz dX12_timesAdded_5 rfl ?_
    refine s_getI (kz := 43) 43 hz fl_X12_357 sf51 rfl rfl dX12_timesAdded_6 ?_
    refine s_icmp_ge 36 hz rv3 (hW 51 _ sf51 43) dX12_timesAdded_9 rfl (fun c1 => ?_) (fun c1 => ?_)
    · have h := zif_t c1 h
      refine s_iload_n 2 hz dX12_timesAdded_36 rfl ?_
      exact s_iret h hz hF rv2 hW dX12_timesAdded_37
    · have h := zif_f c1 h
      refine s_iload_n 2 hz dX12_timesAdded_12 rfl ?_
      refine s_aload_n 0 hz dX12_timesAdded_13 rfl ?_
      refine s_getR 44 hz fl_X12_120 sf51 rfl (by decide) dX12_timesAdded_14 ?_
      refine s_iload_n 3 hz dX12_timesAdded_17 rfl ?_
      obtain ⟨g2, h⟩ := zg_of h
      refine s_iald hz sf79 rfl (by decide) g2 dX12_timesAdded_18 ?_
      refine s_iload_n 1 hz dX12_timesAdded_19 rfl ?_
      refine s_icmp_ne 27 hz (hW 79 _ sf79 v3) rp1 dX12_timesAdded_20 rfl (fun c3 => ?_) (fun c3 => ?_)
      · have h := zif_f c3 h
        refine s_iconst hz dX12_timesAdded_27 ?_
        refine s_pick (l' := [(0, aR 51), (1, aI p1), (3, aI v3)]) [0, 1, 3] rfl ?_
        exact TJ_X12_timesAdded_28 hz hN hF (fun _ _ _ => ih) rp1 rv3 rl_0 rv2 hW h
      · have h := zif_t c3 h
        refine s_iconst hz dX12_timesAdded_23 ?_
        refine s_goto 28 hz dX12_timesAdded_24 rfl ?_
        refine s_pick (l' := [(0, aR 51), (1, aI p1), (3, aI v3)]) [0, 1, 3] rfl ?_
        exact TJ_X12_timesAdded_28 hz hN hF (fun _ _ _ => ih) rp1 rv3 rl_1 rv2 hW h
def M_X12_timesAdded (a1 : Int) (S : HS) : zO2 :=
  L_X12_timesAdded_4 a1 zBig 0 0 S
set_option maxHeartbeats 4000000 in
set_option maxRecDepth 20000 in
theorem T_X12_timesAdded {a1 : Int} {S S' : HS} {r : Int} (ra1 : rng a1) (hW : WR shF S) (h : M_X12_timesAdded a1 S = some (r, S')) : zR shF yX12_timesAdded cX12_timesAdded 4  .int 1 [aR 51, aI a1] S r S' := by
  refine zR_of (by decide +kernel) (Nat.le_of_ble_eq_true rfl) (fun z hz hN hF => ?_)
  have hz : zO z cX12_timesAdded RX12 1 shF := hz
  show zA z 0 [(0, aR 51), (1, aI a1)] [] S
  unfold M_X12_timesAdded at h
  refine s_iconst hz dX12_timesAdded_0 ?_
  refine s_istore_n (l' := [(2, aI 0), (0, aR 51), (1, aI a1)]) hz hN dX12_timesAdded_1 (by decide) rfl ?_
  refine s_iconst hz dX12_timesAdded_2 ?_
  refine s_istore_n (l' := [(3, aI 0), (2, aI 0), (0, aR 51), (1, aI a1)]) hz hN dX12_timesAdded_3 (by decide) rfl ?_
  refine s_pick (l' := [(0, aR 51), (1, aI a1), (2, aI 0), (3, aI 0)]) [2, 3, 1, 0] rfl ?_
  exact TL_X12_timesAdded_4 hz hN hF ra1 zBig rl_0 rl_0 hW h
def L_X12_takeBack_40 (k73 : HS → zO2) (p1 : Int) (p2 : Int) : Nat → Int → HS → zO2
  | 0, _, _ => none
  | n + 1, v3, S => 
    if S 51 27 ≤ v3 then (
      k73 S)
    else (
      zg ((0 : Int) ≤ v3 ∧ v3 < 24) <|
      if 0 ≤ S 72 v3 then (
        some ((-1), S))
      else (
        zb (M_X12_timesAdded v3 S) fun r8 S9 =>
        if r8 ≤ 0 then (
          zl (v3 + 1) fun x11 =>
          L_X12_takeBack_40 k73 p1 p2 n x11 S9)
        else (
          some ((-1), S9))))
set_option maxHeartbeats 4000000 in
set_option maxRecDepth 20000 in
theorem TL_X12_takeBack_40 {k73 : HS → zO2} {p1 : Int} {p2 : Int} {r : Int} {S' : HS} {z : Zt} (hz : zO z cX12_takeBack RX12 3 shF) (hN : zN z 4) (hF : zFi z shF .int r S') (hk73 : ∀ (S : HS), WR shF S → k73 S = some (r, S') → zA z 73 [(0, aR 51), (1, aI p1), (2, aI p2)] [] S) (rp1 : rng p1) (rp2 : rng p2) : ∀ (n : Nat) {v3 : Int} {S : HS}, rng v3 → WR shF S → L_X12_takeBack_40 k73 p1 p2 n v3 S = some (r, S') → zA z 40 [(0, aR 51), (1, aI p1), (2, aI p2), (3, aI v3)] [] S := by
  intro n
  induction n with
  | zero =>
    intro _ _ _ _ h
    cases h
  | succ n ih =>
    intro v3 S rv3 hW h
    rw [L_X12_takeBack_40.eq_2] at h
    refine s_iload_n 3 hz dX12_takeBack_40 rfl ?_
    refine s_aload_n 0 hz dX12_takeBack_41 rfl ?_
    refine s_getI (kz := 27) 27 hz fl_X12_256 sf51 rfl rfl dX12_takeBack_42 ?_
    refine s_icmp_ge 73 hz rv3 (hW 51 _ sf51 27) dX12_takeBack_45 rfl (fun c5 => ?_) (fun c5 => ?_)
    · have h := zif_t c5 h
      refine s_pick (l' := [(0, aR 51), (1, aI p1), (2, aI p2)]) [0, 1, 2] rfl ?_
      exact hk73 _ hW h
    · have h := zif_f c5 h
      refine s_aload_n 0 hz dX12_takeBack_48 rfl ?_
      refine s_getR 33 hz fl_X12_99 sf51 rfl (by decide) dX12_takeBack_49 ?_
      refine s_iload_n 3 hz dX12_takeBack_52 rfl ?_
      obtain ⟨g6, h⟩ := zg_of h
      refine s_iald hz sf72 rfl (by decide) g6 dX12_takeBack_53 ?_
      refine s_if_ge 65 hz (hW 72 _ sf72 v3) dX12_takeBack_54 rfl (fun c7 => ?_) (fun c7 => ?_)
      · have h := zif_t c7 h
        refine s_iconst hz dX12_takeBack_65 ?_
        exact s_iret h hz hF rl_m1 hW dX12_takeBack_66
      · have h := zif_f c7 h
        refine s_aload_n 0 hz dX12_takeBack_57 rfl ?_
        refine s_iload_n 3 hz dX12_takeBack_58 rfl ?_
        obtain ⟨r8, S9, hc9, h⟩ := zb_of h
        refine s_callV [aI v3] [] hz ml_X12_324 sv_yX12_timesAdded (T_X12_timesAdded rv3 hW hc9) (by decide) rfl sf51 rfl rfl (Nat.le_of_ble_eq_true rfl) dX12_takeBack_59 (fun rr8 hW9 => ?_)
        refine s_if_le 67 hz rr8 dX12_takeBack_62 rfl (fun c10 => ?_) (fun c10 => ?_)
        · have h := zif_t c10 h
          obtain ⟨x11, ex11, rx11, h⟩ := zl_ex h
          refine s_iinc (k0 := 3) (y := x11) (l' := [(3, aI x11), (0, aR 51), (1, aI p1), (2, aI p2)]) hz hN dX12_takeBack_67 rfl ex11.symm (by decide) rfl ?_
          refine s_goto 40 hz dX12_takeBack_70 rfl ?_
          refine s_pick (l' := [(0, aR 51), (1, aI p1), (2, aI p2), (3, aI x11)]) [1, 2, 3, 0] rfl ?_
          exact ih rx11 hW9 h
        · have h := zif_f c10 h
          refine s_iconst hz dX12_takeBack_65 ?_
          exact s_iret h hz hF rl_m1 hW9 dX12_takeBack_66
def M_X12_takeBack (S : HS) : zO2 :=
  zs (up S 51 0 0) fun S1 =>
  if S1 51 34 = 0 then (
    some ((-1), S1))
  else (
    zg ((0 : Int) ≤ (S1 51 34) - 1 ∧ (S1 51 34) - 1 < 84) <|
    zg ((0 : Int) ≤ (S1 51 34) - 1 ∧ (S1 51 34) - 1 < 84) <|
    L_X12_takeBack_40 (fun S12 =>
        zl ((((S12 51 22) - (S1 73 ((S1 51 34) - 1))) + (S12 51 27)) - (S1 74 ((S1 51 34) - 1))) fun x13 =>
        zb (M_X12_forgets (S1 73 ((S1 51 34) - 1)) (S1 74 ((S1 51 34) - 1)) S12) fun _ S15 =>
        zl ((S15 51 34) - 1) fun x16 =>
        zs (up S15 51 34 x16) fun S17 =>
        some (x13, S17)) (S1 73 ((S1 51 34) - 1)) (S1 74 ((S1 51 34) - 1)) zBig (S1 74 ((S1 51 34) - 1)) S1)
set_option maxHeartbeats 4000000 in
set_option maxRecDepth 20000 in
theorem T_X12_takeBack {S S' : HS} {r : Int} (hW : WR shF S) (h : M_X12_takeBack S = some (r, S')) : zR shF yX12_takeBack cX12_takeBack 4  .int 3 [aR 51] S r S' := by
  refine zR_of (by decide +kernel) (Nat.le_of_ble_eq_true rfl) (fun z hz hN hF => ?_)
  have hz : zO z cX12_takeBack RX12 3 shF := hz
  show zA z 0 [(0, aR 51)] [] S
  unfold M_X12_takeBack at h
  refine s_aload_n 0 hz dX12_takeBack_0 rfl ?_
  refine s_iconst hz dX12_takeBack_1 ?_
  obtain ⟨S1, eS1, h⟩ := zs_ex h
  have hW1 : WR shF S1 := by rw [eS1]; exact hW.up (i := 0) sf51 (v := 0) rl_0
  refine s_putI (kz := 0) 0 hz fp_X12_1 sf51 rfl rfl dX12_takeBack_2 ?_
  rw [← eS1]
  refine s_aload_n 0 hz dX12_takeBack_5 rfl ?_
  refine s_getI (kz := 34) 34 hz fl_X12_273 sf51 rfl rfl dX12_takeBack_6 ?_
  refine s_if_ne 14 hz (hW1 51 _ sf51 34) dX12_takeBack_9 rfl (fun c2 => ?_) (fun c2 => ?_)
  · have h := zif_f c2 h
    refine s_aload_n 0 hz dX12_takeBack_14 rfl ?_
    refine s_getR 35 hz fl_X12_102 sf51 rfl (by decide) dX12_takeBack_15 ?_
    refine s_aload_n 0 hz dX12_takeBack_18 rfl ?_
    refine s_getI (kz := 34) 34 hz fl_X12_273 sf51 rfl rfl dX12_takeBack_19 ?_
    refine s_iconst hz dX12_takeBack_22 ?_
    refine s_isub hz dX12_takeBack_23 ?_
    obtain ⟨g3, h⟩ := zg_of h
    refine s_iald hz sf73 rfl (by decide) g3 dX12_takeBack_24 ?_
    refine s_istore_n (l' := [(1, aI (S1 73 ((S1 51 34) - 1))), (0, aR 51)]) hz hN dX12_takeBack_25 (by decide) rfl ?_
    refine s_aload_n 1 hz dX12_takeBack_26 rfl ?_
    refine s_getR 36 hz fl_X12_105 sf51 rfl (by decide) dX12_takeBack_27 ?_
    refine s_aload_n 1 hz dX12_takeBack_30 rfl ?_
    refine s_getI (kz := 34) 34 hz fl_X12_273 sf51 rfl rfl dX12_takeBack_31 ?_
    refine s_iconst hz dX12_takeBack_34 ?_
    refine s_isub hz dX12_takeBack_35 ?_
    obtain ⟨g4, h⟩ := zg_of h
    refine s_iald hz sf74 rfl (by decide) g4 dX12_takeBack_36 ?_
    refine s_istore_n (l' := [(2, aI (S1 74 ((S1 51 34) - 1))), (1, aI (S1 73 ((S1 51 34) - 1))), (0, aR 51)]) hz hN dX12_takeBack_37 (by decide) rfl ?_
    refine s_iload_n 0 hz dX12_takeBack_38 rfl ?_
    refine s_istore_n (l' := [(3, aI (S1 74 ((S1 51 34) - 1))), (2, aI (S1 74 ((S1 51 34) - 1))), (1, aI (S1 73 ((S1 51 34) - 1))), (0, aR 51)]) hz hN dX12_takeBack_39 (by decide) rfl ?_
    refine s_pick (l' := [(0, aR 51), (1, aI (S1 73 ((S1 51 34) - 1))), (2, aI (S1 74 ((S1 51 34) - 1))), (3, aI (S1 74 ((S1 51 34) - 1)))]) [3, 2, 1, 0] rfl ?_
    refine TL_X12_takeBack_40 hz hN hF ?_ (hW1 73 _ sf73 ((S1 51 34) - 1)) (hW1 74 _ sf74 ((S1 51 34) - 1)) zBig (hW1 74 _ sf74 ((S1 51 34) - 1)) hW1 h
    · clear h 
      intro S12 hW12 h
      refine s_aload_n 0 hz dX12_takeBack_73 rfl ?_
      refine s_getI (kz := 22) 22 hz fl_X12_253 sf51 rfl rfl dX12_takeBack_74 ?_
      refine s_iload_n 1 hz dX12_takeBack_77 rfl ?_
      refine s_isub hz dX12_takeBack_78 ?_
      refine s_aload_n 0 hz dX12_takeBack_79 rfl ?_
      refine s_getI (kz := 27) 27 hz fl_X12_256 sf51 rfl rfl dX12_takeBack_80 ?_
      refine s_iadd hz dX12_takeBack_83 ?_
      refine s_iload_n 2 hz dX12_takeBack_84 rfl ?_
      refine s_isub hz dX12_takeBack_85 ?_
      obtain ⟨x13, ex13, rx13, h⟩ := zl_ex h
      rw [← ex13]
      refine s_istore_n (l' := [(3, aI x13), (0, aR 51), (1, aI (S1 73 ((S1 51 34) - 1))), (2, aI (S1 74 ((S1 51 34) - 1)))]) hz hN dX12_takeBack_86 (by decide) rfl ?_
      refine s_aload_n 1 hz dX12_takeBack_87 rfl ?_
      refine s_iload_n 2 hz dX12_takeBack_88 rfl ?_
      refine s_iload_n 3 hz dX12_takeBack_89 rfl ?_
      obtain ⟨r14, S15, hc15, h⟩ := zb_of h
      refine s_callVv [aI (S1 73 ((S1 51 34) - 1)), aI (S1 74 ((S1 51 34) - 1))] [] hz ml_X12_269 sv_yX12_forgets (T_X12_forgets (hW1 73 _ sf73 ((S1 51 34) - 1)) (hW1 74 _ sf74 ((S1 51 34) - 1)) hW12 hc15) (by decide) rfl sf51 rfl rfl (Nat.le_of_ble_eq_true rfl) dX12_takeBack_90 (fun hW15 => ?_)
      refine s_aload_n 1 hz dX12_takeBack_93 rfl ?_
      refine s_dup hz rfl dX12_takeBack_94 ?_
      refine s_getI (kz := 34) 34 hz fl_X12_273 sf51 rfl rfl dX12_takeBack_95 ?_
      refine s_iconst hz dX12_takeBack_98 ?_
      refine s_isub hz dX12_takeBack_99 ?_
      obtain ⟨x16, ex16, rx16, h⟩ := zl_ex h
      rw [← ex16]
      obtain ⟨S17, eS17, h⟩ := zs_ex h
      have hW17 : WR shF S17 := by rw [eS17]; exact hW15.up (i := 34) sf51 (v := x16) rx16
      refine s_putI (kz := 34) 34 hz fp_X12_273 sf51 rfl rfl dX12_takeBack_100 ?_
      rw [← eS17]
      refine s_iload_n 0 hz dX12_takeBack_103 rfl ?_
      exact s_iret h hz hF rx13 hW17 dX12_takeBack_104
  · have h := zif_t c2 h
    refine s_iconst hz dX12_takeBack_12 ?_
    exact s_iret h hz hF rl_m1 hW1 dX12_takeBack_13
def M_X12_mayTell (S : HS) : zO2 :=
  if S 51 22 = 0 then (
    if S 51 27 = 0 then (
      if S 51 38 = 0 then (
        some (1, S))
      else (
        some (0, S)))
    else (
      some (0, S)))
  else (
    some (0, S))
set_option maxHeartbeats 4000000 in
set_option maxRecDepth 20000 in
theorem T_X12_mayTell {S S' : HS} {r : Int} (hW : WR shF S) (h : M_X12_mayTell S = some (r, S')) : zR shF yX12_mayTell cX12_mayTell 1  .boolean 1 [aR 51] S r S' := by
  refine zR_of (by decide +kernel) (Nat.le_of_ble_eq_true rfl) (fun z hz hN hF => ?_)
  have hz : zO z cX12_mayTell RX12 1 shF := hz
  show zA z 0 [(0, aR 51)] [] S
  unfold M_X12_mayTell at h
  refine s_aload_n 0 hz dX12_mayTell_0 rfl ?_
  refine s_getI (kz := 22) 22 hz fl_X12_253 sf51 rfl rfl dX12_mayTell_1 ?_
  refine s_if_ne 25 hz (hW 51 _ sf51 22) dX12_mayTell_4 rfl (fun c1 => ?_) (fun c1 => ?_)
  · have h := zif_f c1 h
    refine s_iconst hz dX12_mayTell_25 ?_
    exact s_zret h hz hF (by decide) hW dX12_mayTell_26
  · have h := zif_t c1 h
    refine s_aload_n 0 hz dX12_mayTell_7 rfl ?_
    refine s_getI (kz := 27) 27 hz fl_X12_256 sf51 rfl rfl dX12_mayTell_8 ?_
    refine s_if_ne 25 hz (hW 51 _ sf51 27) dX12_mayTell_11 rfl (fun c2 => ?_) (fun c2 => ?_)
    · have h := zif_f c2 h
      refine s_iconst hz dX12_mayTell_25 ?_
      exact s_zret h hz hF (by decide) hW dX12_mayTell_26
    · have h := zif_t c2 h
      refine s_aload_n 0 hz dX12_mayTell_14 rfl ?_
      refine s_getI (kz := 38) 38 hz fl_X12_327 sf51 rfl rfl dX12_mayTell_15 ?_
      refine s_if_ne 25 hz (hW 51 _ sf51 38) dX12_mayTell_18 rfl (fun c3 => ?_) (fun c3 => ?_)
      · have h := zif_f c3 h
        refine s_iconst hz dX12_mayTell_25 ?_
        exact s_zret h hz hF (by decide) hW dX12_mayTell_26
      · have h := zif_t c3 h
        refine s_iconst hz dX12_mayTell_21 ?_
        refine s_goto 26 hz dX12_mayTell_22 rfl ?_
        exact s_zret h hz hF (by decide) hW dX12_mayTell_26
def M_X12_cell (a1 : Int) (a2 : Int) (a3 : Int) (S : HS) : zO2 :=
  zs (up S 51 0 0) fun S1 =>
  zb (M_X12_isCell a1 a2 S1) fun r2 S3 =>
  if r2 = 0 then (
    some (0, S3))
  else (
    if a3 < (-1) then (
      some (0, S3))
    else (
      if 99 < a3 then (
        some (0, S3))
      else (
        zb (M_X12_mayTell S3) fun r7 S8 =>
        if r7 = 0 then (
          some (0, S8))
        else (
          zg ((0 : Int) ≤ (16 * a2) + a1 ∧ (16 * a2) + a1 < 192) <|
          zs (up S8 67 ((16 * a2) + a1) a3) fun S11 =>
          some (1, S11)))))
set_option maxHeartbeats 4000000 in
set_option maxRecDepth 20000 in
theorem T_X12_cell {a1 : Int} {a2 : Int} {a3 : Int} {S S' : HS} {r : Int} (ra1 : rng a1) (ra2 : rng a2) (ra3 : rng a3) (hW : WR shF S) (h : M_X12_cell a1 a2 a3 S = some (r, S')) : zR shF yX12_cell cX12_cell 4  .boolean 2 [aR 51, aI a1, aI a2, aI a3] S r S' := by
  refine zR_of (by decide +kernel) (Nat.le_of_ble_eq_true rfl) (fun z hz hN hF => ?_)
  have hz : zO z cX12_cell RX12 2 shF := hz
  show zA z 0 [(0, aR 51), (1, aI a1), (2, aI a2), (3, aI a3)] [] S
  unfold M_X12_cell at h
  refine s_aload_n 0 hz dX12_cell_0 rfl ?_
  refine s_iconst hz dX12_cell_1 ?_
  obtain ⟨S1, eS1, h⟩ := zs_ex h
  have hW1 : WR shF S1 := by rw [eS1]; exact hW.up (i := 0) sf51 (v := 0) rl_0
  refine s_putI (kz := 0) 0 hz fp_X12_1 sf51 rfl rfl dX12_cell_2 ?_
  rw [← eS1]
  refine s_iload_n 1 hz dX12_cell_5 rfl ?_
  refine s_iload_n 2 hz dX12_cell_6 rfl ?_
  obtain ⟨r2, S3, hc3, h⟩ := zb_of h
  refine s_callS [aI a1, aI a2] [] hz ml_X12_311 ss_yX12_isCell (T_X12_isCell ra1 ra2 hW1 hc3) (by decide) rfl rfl (Nat.le_of_ble_eq_true rfl) dX12_cell_7 (fun rr2 hW3 => ?_)
  refine s_if_eq 31 hz rr2 dX12_cell_10 rfl (fun c4 => ?_) (fun c4 => ?_)
  · have h := zif_t c4 h
    refine s_iconst hz dX12_cell_31 ?_
    exact s_zret h hz hF (by decide) hW3 dX12_cell_32
  · have h := zif_f c4 h
    refine s_iload_n 3 hz dX12_cell_13 rfl ?_
    refine s_iconst hz dX12_cell_14 ?_
    refine s_icmp_lt 31 hz ra3 rl_m1 dX12_cell_15 rfl (fun c5 => ?_) (fun c5 => ?_)
    · have h := zif_t c5 h
      refine s_iconst hz dX12_cell_31 ?_
      exact s_zret h hz hF (by decide) hW3 dX12_cell_32
    · have h := zif_f c5 h
      refine s_iload_n 3 hz dX12_cell_18 rfl ?_
      refine s_bipush hz dX12_cell_19 bp_99 ?_
      refine s_icmp_gt 31 hz ra3 rl_99 dX12_cell_21 rfl (fun c6 => ?_) (fun c6 => ?_)
      · have h := zif_t c6 h
        refine s_iconst hz dX12_cell_31 ?_
        exact s_zret h hz hF (by decide) hW3 dX12_cell_32
      · have h := zif_f c6 h
        refine s_aload_n 0 hz dX12_cell_24 rfl ?_
        obtain ⟨r7, S8, hc8, h⟩ := zb_of h
        refine s_callV [] [] hz ml_X12_330 sv_yX12_mayTell (T_X12_mayTell hW3 hc8) (by decide) rfl sf51 rfl rfl (Nat.le_of_ble_eq_true rfl) dX12_cell_25 (fun rr7 hW8 => ?_)
        refine s_if_ne 33 hz rr7 dX12_cell_28 rfl (fun c9 => ?_) (fun c9 => ?_)
        · have h := zif_f c9 h
          refine s_aload_n 0 hz dX12_cell_33 rfl ?_
          refine s_getR 28 hz fl_X12_84 sf51 rfl (by decide) dX12_cell_34 ?_
          refine s_bipush hz dX12_cell_37 bp_16 ?_
          refine s_iload_n 2 hz dX12_cell_39 rfl ?_
          refine s_imul hz dX12_cell_40 ?_
          refine s_iload_n 1 hz dX12_cell_41 rfl ?_
          refine s_iadd hz dX12_cell_42 ?_
          refine s_iload_n 3 hz dX12_cell_43 rfl ?_
          obtain ⟨g10, h⟩ := zg_of h
          obtain ⟨S11, eS11, h⟩ := zs_ex h
          have hW11 : WR shF S11 := by rw [eS11]; exact hW8.up (i := ((16 * a2) + a1)) sf67 (v := a3) ra3
          refine s_iast hz sf67 rfl (by decide) g10 dX12_cell_44 ?_
          rw [← eS11]
          refine s_iconst hz dX12_cell_45 ?_
          exact s_zret h hz hF (by decide) hW11 dX12_cell_46
        · have h := zif_t c9 h
          refine s_iconst hz dX12_cell_31 ?_
          exact s_zret h hz hF (by decide) hW8 dX12_cell_32
def M_X12_length (a1 : Int) (S : HS) : zO2 :=
  zs (up S 51 0 0) fun S1 =>
  if a1 < 20 then (
    some (0, S1))
  else (
    if 2000 < a1 then (
      some (0, S1))
    else (
      zb (M_X12_mayTell S1) fun r4 S5 =>
      if r4 = 0 then (
        some (0, S5))
      else (
        zs (up S5 51 37 a1) fun S7 =>
        some (1, S7))))
set_option maxHeartbeats 4000000 in
set_option maxRecDepth 20000 in
theorem T_X12_length {a1 : Int} {S S' : HS} {r : Int} (ra1 : rng a1) (hW : WR shF S) (h : M_X12_length a1 S = some (r, S')) : zR shF yX12_length cX12_length 2  .boolean 2 [aR 51, aI a1] S r S' := by
  refine zR_of (by decide +kernel) (Nat.le_of_ble_eq_true rfl) (fun z hz hN hF => ?_)
  have hz : zO z cX12_length RX12 2 shF := hz
  show zA z 0 [(0, aR 51), (1, aI a1)] [] S
  unfold M_X12_length at h
  refine s_aload_n 0 hz dX12_length_0 rfl ?_
  refine s_iconst hz dX12_length_1 ?_
  obtain ⟨S1, eS1, h⟩ := zs_ex h
  have hW1 : WR shF S1 := by rw [eS1]; exact hW.up (i := 0) sf51 (v := 0) rl_0
  refine s_putI (kz := 0) 0 hz fp_X12_1 sf51 rfl rfl dX12_length_2 ?_
  rw [← eS1]
  refine s_iload_n 1 hz dX12_length_5 rfl ?_
  refine s_bipush hz dX12_length_6 bp_20 ?_
  refine s_icmp_lt 25 hz ra1 rl_20 dX12_length_8 rfl (fun c2 => ?_) (fun c2 => ?_)
  · have h := zif_t c2 h
    refine s_iconst hz dX12_length_25 ?_
    exact s_zret h hz hF (by decide) hW1 dX12_length_26
  · have h := zif_f c2 h
    refine s_iload_n 1 hz dX12_length_11 rfl ?_
    refine s_sipush hz dX12_length_12 sp_2000 ?_
    refine s_icmp_gt 25 hz ra1 rl_2000 dX12_length_15 rfl (fun c3 => ?_) (fun c3 => ?_)
    · have h := zif_t c3 h
      refine s_iconst hz dX12_length_25 ?_
      exact s_zret h hz hF (by decide) hW1 dX12_length_26
    · have h := zif_f c3 h
      refine s_aload_n 0 hz dX12_length_18 rfl ?_
      obtain ⟨r4, S5, hc5, h⟩ := zb_of h
      refine s_callV [] [] hz ml_X12_330 sv_yX12_mayTell (T_X12_mayTell hW1 hc5) (by decide) rfl sf51 rfl rfl (Nat.le_of_ble_eq_true rfl) dX12_length_19 (fun rr4 hW5 => ?_)
      refine s_if_ne 27 hz rr4 dX12_length_22 rfl (fun c6 => ?_) (fun c6 => ?_)
      · have h := zif_f c6 h
        refine s_aload_n 0 hz dX12_length_27 rfl ?_
        refine s_iload_n 1 hz dX12_length_28 rfl ?_
        obtain ⟨S7, eS7, h⟩ := zs_ex h
        have hW7 : WR shF S7 := by rw [eS7]; exact hW5.up (i := 37) sf51 (v := a1) ra1
        refine s_putI (kz := 37) 37 hz fp_X12_165 sf51 rfl rfl dX12_length_29 ?_
        rw [← eS7]
        refine s_iconst hz dX12_length_32 ?_
        exact s_zret h hz hF (by decide) hW7 dX12_length_33
      · have h := zif_t c6 h
        refine s_iconst hz dX12_length_25 ?_
        exact s_zret h hz hF (by decide) hW5 dX12_length_26
def M_X12_stepX (a1 : Int) (S : HS) : zO2 :=
  if a1 = 2 then (
    some ((-1), S))
  else (
    if a1 = 3 then (
      some (1, S))
    else (
      some (0, S)))
set_option maxHeartbeats 4000000 in
set_option maxRecDepth 20000 in
theorem T_X12_stepX {a1 : Int} {S S' : HS} {r : Int} (ra1 : rng a1) (hW : WR shF S) (h : M_X12_stepX a1 S = some (r, S')) : zR shF yX12_stepX cX12_stepX 1  .int 1 [aI a1] S r S' := by
  refine zR_of (by decide +kernel) (Nat.le_of_ble_eq_true rfl) (fun z hz hN hF => ?_)
  have hz : zO z cX12_stepX RX12 1 shF := hz
  show zA z 0 [(0, aI a1)] [] S
  unfold M_X12_stepX at h
  refine s_iload_n 0 hz dX12_stepX_0 rfl ?_
  refine s_iconst hz dX12_stepX_1 ?_
  refine s_icmp_ne 9 hz ra1 rl_2 dX12_stepX_2 rfl (fun c1 => ?_) (fun c1 => ?_)
  · have h := zif_f c1 h
    refine s_iload_n 0 hz dX12_stepX_9 rfl ?_
    refine s_iconst hz dX12_stepX_10 ?_
    refine s_icmp_ne 18 hz ra1 rl_3 dX12_stepX_11 rfl (fun c2 => ?_) (fun c2 => ?_)
    · have h := zif_f c2 h
      refine s_iconst hz dX12_stepX_18 ?_
      exact s_iret h hz hF rl_0 hW dX12_stepX_19
    · have h := zif_t c2 h
      refine s_iconst hz dX12_stepX_14 ?_
      refine s_goto 19 hz dX12_stepX_15 rfl ?_
      exact s_iret h hz hF rl_1 hW dX12_stepX_19
  · have h := zif_t c1 h
    refine s_iconst hz dX12_stepX_5 ?_
    refine s_goto 19 hz dX12_stepX_6 rfl ?_
    exact s_iret h hz hF rl_m1 hW dX12_stepX_19
def M_X12_stepY (a1 : Int) (S : HS) : zO2 :=
  if a1 = 0 then (
    some ((-1), S))
  else (
    if a1 = 1 then (
      some (1, S))
    else (
      some (0, S)))
set_option maxHeartbeats 4000000 in
set_option maxRecDepth 20000 in
theorem T_X12_stepY {a1 : Int} {S S' : HS} {r : Int} (ra1 : rng a1) (hW : WR shF S) (h : M_X12_stepY a1 S = some (r, S')) : zR shF yX12_stepY cX12_stepY 1  .int 1 [aI a1] S r S' := by
  refine zR_of (by decide +kernel) (Nat.le_of_ble_eq_true rfl) (fun z hz hN hF => ?_)
  have hz : zO z cX12_stepY RX12 1 shF := hz
  show zA z 0 [(0, aI a1)] [] S
  unfold M_X12_stepY at h
  refine s_iload_n 0 hz dX12_stepY_0 rfl ?_
  refine s_if_ne 8 hz ra1 dX12_stepY_1 rfl (fun c1 => ?_) (fun c1 => ?_)
  · have h := zif_f c1 h
    refine s_iload_n 0 hz dX12_stepY_8 rfl ?_
    refine s_iconst hz dX12_stepY_9 ?_
    refine s_icmp_ne 17 hz ra1 rl_1 dX12_stepY_10 rfl (fun c2 => ?_) (fun c2 => ?_)
    · have h := zif_f c2 h
      refine s_iconst hz dX12_stepY_17 ?_
      exact s_iret h hz hF rl_0 hW dX12_stepY_18
    · have h := zif_t c2 h
      refine s_iconst hz dX12_stepY_13 ?_
      refine s_goto 18 hz dX12_stepY_14 rfl ?_
      exact s_iret h hz hF rl_1 hW dX12_stepY_18
  · have h := zif_t c1 h
    refine s_iconst hz dX12_stepY_4 ?_
    refine s_goto 18 hz dX12_stepY_5 rfl ?_
    exact s_iret h hz hF rl_m1 hW dX12_stepY_18
def M_X12_beside (a1 : Int) (a2 : Int) (S : HS) : zO2 :=
  zg ((0 : Int) ≤ a1 ∧ (0 : Int) < 16) <|
  zl (a1 % 16) fun x2 =>
  zg ((0 : Int) ≤ a1 ∧ (0 : Int) < 16) <|
  zl (a1 / 16) fun x4 =>
  zb (M_X12_stepX a2 S) fun r5 S6 =>
  zl (x2 + r5) fun x7 =>
  zb (M_X12_stepY a2 S6) fun r8 S9 =>
  zl (x4 + r8) fun x10 =>
  zb (M_X12_isScalp x7 x10 S9) fun r11 S12 =>
  if r11 = 0 then (
    some ((-1), S12))
  else (
    zb (M_X12_isParted x2 x4 x7 x10 S12) fun r14 S15 =>
    if r14 = 0 then (
      zl ((16 * x10) + x7) fun x17 =>
      some (x17, S15))
    else (
      some ((-1), S15)))
set_option maxHeartbeats 4000000 in
set_option maxRecDepth 20000 in
theorem T_X12_beside {a1 : Int} {a2 : Int} {S S' : HS} {r : Int} (ra1 : rng a1) (ra2 : rng a2) (hW : WR shF S) (h : M_X12_beside a1 a2 S = some (r, S')) : zR shF yX12_beside cX12_beside 7  .int 3 [aR 51, aI a1, aI a2] S r S' := by
  refine zR_of (by decide +kernel) (Nat.le_of_ble_eq_true rfl) (fun z hz hN hF => ?_)
  have hz : zO z cX12_beside RX12 3 shF := hz
  show zA z 0 [(0, aR 51), (1, aI a1), (2, aI a2)] [] S
  unfold M_X12_beside at h
  refine s_iload_n 1 hz dX12_beside_0 rfl ?_
  refine s_bipush hz dX12_beside_1 bp_16 ?_
  obtain ⟨g1, h⟩ := zg_of h
  refine s_irem hz g1.1 g1.2 ra1 rl_16 dX12_beside_3 ?_
  obtain ⟨x2, ex2, rx2, h⟩ := zl_ex h
  rw [← ex2]
  refine s_istore_n (l' := [(3, aI x2), (0, aR 51), (1, aI a1), (2, aI a2)]) hz hN dX12_beside_4 (by decide) rfl ?_
  refine s_iload_n 2 hz dX12_beside_5 rfl ?_
  refine s_bipush hz dX12_beside_6 bp_16 ?_
  obtain ⟨g3, h⟩ := zg_of h
  refine s_idiv hz g3.1 g3.2 ra1 rl_16 dX12_beside_8 ?_
  obtain ⟨x4, ex4, rx4, h⟩ := zl_ex h
  rw [← ex4]
  refine s_istore (l' := [(4, aI x4), (3, aI x2), (0, aR 51), (1, aI a1), (2, aI a2)]) hz hN dX12_beside_9 (by decide) rfl ?_
  refine s_iload_n 1 hz dX12_beside_11 rfl ?_
  refine s_iload_n 4 hz dX12_beside_12 rfl ?_
  obtain ⟨r5, S6, hc6, h⟩ := zb_of h
  refine s_callS [aI a2] [aI x2] hz ml_X12_333 ss_yX12_stepX (T_X12_stepX ra2 hW hc6) (by decide) rfl rfl (Nat.le_of_ble_eq_true rfl) dX12_beside_13 (fun rr5 hW6 => ?_)
  refine s_iadd hz dX12_beside_16 ?_
  obtain ⟨x7, ex7, rx7, h⟩ := zl_ex h
  rw [← ex7]
  refine s_istore (l' := [(5, aI x7), (4, aI x4), (3, aI x2), (0, aR 51), (1, aI a1), (2, aI a2)]) hz hN dX12_beside_17 (by decide) rfl ?_
  refine s_iload 1 hz dX12_beside_19 rfl ?_
  refine s_iload_n 5 hz dX12_beside_21 rfl ?_
  obtain ⟨r8, S9, hc9, h⟩ := zb_of h
  refine s_callS [aI a2] [aI x4] hz ml_X12_336 ss_yX12_stepY (T_X12_stepY ra2 hW6 hc9) (by decide) rfl rfl (Nat.le_of_ble_eq_true rfl) dX12_beside_22 (fun rr8 hW9 => ?_)
  refine s_iadd hz dX12_beside_25 ?_
  obtain ⟨x10, ex10, rx10, h⟩ := zl_ex h
  rw [← ex10]
  refine s_istore (l' := [(6, aI x10), (5, aI x7), (4, aI x4), (3, aI x2), (0, aR 51), (1, aI a1), (2, aI a2)]) hz hN dX12_beside_26 (by decide) rfl ?_
  refine s_aload_n 4 hz dX12_beside_28 rfl ?_
  refine s_iload 1 hz dX12_beside_29 rfl ?_
  refine s_iload 0 hz dX12_beside_31 rfl ?_
  obtain ⟨r11, S12, hc12, h⟩ := zb_of h
  refine s_callV [aI x7, aI x10] [] hz ml_X12_314 sv_yX12_isScalp (T_X12_isScalp rx7 rx10 hW9 hc12) (by decide) rfl sf51 rfl rfl (Nat.le_of_ble_eq_true rfl) dX12_beside_33 (fun rr11 hW12 => ?_)
  refine s_if_eq 64 hz rr11 dX12_beside_36 rfl (fun c13 => ?_) (fun c13 => ?_)
  · have h := zif_t c13 h
    refine s_iconst hz dX12_beside_64 ?_
    exact s_iret h hz hF rl_m1 hW12 dX12_beside_65
  · have h := zif_f c13 h
    refine s_aload_n 4 hz dX12_beside_39 rfl ?_
    refine s_iload_n 3 hz dX12_beside_40 rfl ?_
    refine s_iload 2 hz dX12_beside_41 rfl ?_
    refine s_iload 1 hz dX12_beside_43 rfl ?_
    refine s_iload 0 hz dX12_beside_45 rfl ?_
    obtain ⟨r14, S15, hc15, h⟩ := zb_of h
    refine s_callV [aI x2, aI x4, aI x7, aI x10] [] hz ml_X12_320 sv_yX12_isParted (T_X12_isParted rx2 rx4 rx7 rx10 hW12 hc15) (by decide) rfl sf51 rfl rfl (Nat.le_of_ble_eq_true rfl) dX12_beside_47 (fun rr14 hW15 => ?_)
    refine s_if_ne 64 hz rr14 dX12_beside_50 rfl (fun c16 => ?_) (fun c16 => ?_)
    · have h := zif_f c16 h
      refine s_iconst hz dX12_beside_64 ?_
      exact s_iret h hz hF rl_m1 hW15 dX12_beside_65
    · have h := zif_t c16 h
      refine s_bipush hz dX12_beside_53 bp_16 ?_
      refine s_iload 0 hz dX12_beside_55 rfl ?_
      refine s_imul hz dX12_beside_57 ?_
      refine s_iload 1 hz dX12_beside_58 rfl ?_
      refine s_iadd hz dX12_beside_60 ?_
      refine s_goto 65 hz dX12_beside_61 rfl ?_
      obtain ⟨x17, ex17, rx17, h⟩ := zl_ex h
      rw [← ex17]
      exact s_iret h hz hF rx17 hW15 dX12_beside_65
def J_X12_spreads_80 (k26 : Int → Int → HS → zO2) (v1 : Int) (v2 : Int) (v3 : Int) (v4 : Int) (S : HS) : zO2 :=
  zl (v4 + 1) fun x10 =>
  k26 v2 x10 S
set_option maxHeartbeats 4000000 in
set_option maxRecDepth 20000 in
theorem TJ_X12_spreads_80 {k26 : Int → Int → HS → zO2} {v1 : Int} {v2 : Int} {v3 : Int} {v4 : Int} {S : HS} {r : Int} {S' : HS} {z : Zt} (hz : zO z cX12_spreads RX12 4 shF) (hN : zN z 6) (hF : zFv z shF S') (hk26 : ∀ (w2 w4 : Int) (S : HS), rng w2 → rng w4 → WR shF S → k26 w2 w4 S = some (r, S') → zA z 26 [(0, aR 51), (1, aI v1), (2, aI w2), (3, aI v3), (4, aI w4)] [] S) (rv1 : rng v1) (rv2 : rng v2) (rv3 : rng v3) (rv4 : rng v4) (hW : WR shF S) (h : J_X12_spreads_80 k26 v1 v2 v3 v4 S = some (r, S')) : zA z 80 [(0, aR 51), (1, aI v1), (2, aI v2), (3, aI v3), (4, aI v4)] [] S := by
  unfold J_X12_spreads_80 at h
  obtain ⟨x10, ex10, rx10, h⟩ := zl_ex h
  refine s_iinc (k0 := 4) (y := x10) (l' := [(4, aI x10), (0, aR 51), (1, aI v1), (2, aI v2), (3, aI v3)]) hz hN dX12_spreads_80 rfl ex10.symm (by decide) rfl ?_
  refine s_goto 26 hz dX12_spreads_83 rfl ?_
  refine s_pick (l' := [(0, aR 51), (1, aI v1), (2, aI v2), (3, aI v3), (4, aI x10)]) [1, 2, 3, 4, 0] rfl ?_
  exact hk26 _ _ _ rv2 rx10 hW h
def L_X12_spreads_26 (k86 : Int → HS → zO2) (p1 : Int) (p3 : Int) : Nat → Int → Int → HS → zO2
  | 0, _, _, _ => none
  | n + 1, v2, v4, S => 
    if 4 ≤ v4 then (
      k86 v2 S)
    else (
      zg ((0 : Int) ≤ p3 ∧ p3 < 192) <|
      zb (M_X12_beside (S 76 p3) v4 S) fun r7 S8 =>
      if r7 < 0 then (
        J_X12_spreads_80 (L_X12_spreads_26 k86 p1 p3 n) p1 v2 p3 v4 S8)
      else (
        zg ((0 : Int) ≤ r7 ∧ r7 < 192) <|
        if 0 ≤ S8 75 r7 then (
          J_X12_spreads_80 (L_X12_spreads_26 k86 p1 p3 n) p1 v2 p3 v4 S8)
        else (
          zg ((0 : Int) ≤ r7 ∧ r7 < 192) <|
          zs (up S8 75 r7 p1) fun S14 =>
          zg ((0 : Int) ≤ v2 ∧ v2 < 192) <|
          zs (up S14 76 v2 r7) fun S16 =>
          zl (v2 + 1) fun x17 =>
          J_X12_spreads_80 (L_X12_spreads_26 k86 p1 p3 n) p1 x17 p3 v4 S16)))
set_option maxHeartbeats 4000000 in
set_option maxRecDepth 20000 in
theorem TL_X12_spreads_26 {k86 : Int → HS → zO2} {p1 : Int} {p3 : Int} {r : Int} {S' : HS} {z : Zt} (hz : zO z cX12_spreads RX12 4 shF) (hN : zN z 6) (hF : zFv z shF S') (hk86 : ∀ (w2 : Int) (S : HS), rng w2 → WR shF S → k86 w2 S = some (r, S') → zA z 86 [(0, aR 51), (1, aI p1), (2, aI w2), (3, aI p3)] [] S) (rp1 : rng p1) (rp3 : rng p3) : ∀ (n : Nat) {v2 : Int} {v4 : Int} {S : HS}, rng v2 → rng v4 → WR shF S → L_X12_spreads_26 k86 p1 p3 n v2 v4 S = some (r, S') → zA z 26 [(0, aR 51), (1, aI p1), (2, aI v2), (3, aI p3), (4, aI v4)] [] S := by
  intro n
  induction n with
  | zero =>
    intro _ _ _ _ _ _ h
    cases h
  | succ n ih =>
    intro v2 v4 S rv2 rv4 hW h
    rw [L_X12_spreads_26.eq_2] at h
    refine s_iload 4 hz dX12_spreads_26 rfl ?_
    refine s_iconst hz dX12_spreads_28 ?_
    refine s_icmp_ge 86 hz rv4 rl_4 dX12_spreads_29 rfl (fun c5 => ?_) (fun c5 => ?_)
    · have h := zif_t c5 h
      refine s_pick (l' := [(0, aR 51), (1, aI p1), (2, aI v2), (3, aI p3)]) [0, 1, 2, 3] rfl ?_
      exact hk86 _ _ rv2 hW h
    · have h := zif_f c5 h
      refine s_aload_n 0 hz dX12_spreads_32 rfl ?_
      refine s_aload_n 0 hz dX12_spreads_33 rfl ?_
      refine s_getR 40 hz fl_X12_111 sf51 rfl (by decide) dX12_spreads_34 ?_
      refine s_iload_n 3 hz dX12_spreads_37 rfl ?_
      obtain ⟨g6, h⟩ := zg_of h
      refine s_iald hz sf76 rfl (by decide) g6 dX12_spreads_38 ?_
      refine s_iload 4 hz dX12_spreads_39 rfl ?_
      obtain ⟨r7, S8, hc8, h⟩ := zb_of h
      refine s_callV [aI (S 76 p3), aI v4] [] hz ml_X12_342 sv_yX12_beside (T_X12_beside (hW 76 _ sf76 p3) rv4 hW hc8) (by decide) rfl sf51 rfl rfl (Nat.le_of_ble_eq_true rfl) dX12_spreads_41 (fun rr7 hW8 => ?_)
      refine s_istore (l' := [(5, aI r7), (0, aR 51), (1, aI p1), (2, aI v2), (3, aI p3), (4, aI v4)]) hz hN dX12_spreads_44 (by decide) rfl ?_
      refine s_iload 0 hz dX12_spreads_46 rfl ?_
      refine s_if_lt 80 hz rr7 dX12_spreads_48 rfl (fun c9 => ?_) (fun c9 => ?_)
      · have h := zif_t c9 h
        refine s_pick (l' := [(0, aR 51), (1, aI p1), (2, aI v2), (3, aI p3), (4, aI v4)]) [1, 2, 3, 4, 5] rfl ?_
        exact TJ_X12_spreads_80 hz hN hF (fun _ _ _ => ih) rp1 rv2 rp3 rv4 hW8 h
      · have h := zif_f c9 h
        refine s_aload_n 1 hz dX12_spreads_51 rfl ?_
        refine s_getR 39 hz fl_X12_108 sf51 rfl (by decide) dX12_spreads_52 ?_
        refine s_iload 0 hz dX12_spreads_55 rfl ?_
        obtain ⟨g11, h⟩ := zg_of h
        refine s_iald hz sf75 rfl (by decide) g11 dX12_spreads_57 ?_
        refine s_if_ge 80 hz (hW8 75 _ sf75 r7) dX12_spreads_58 rfl (fun c12 => ?_) (fun c12 => ?_)
        · have h := zif_t c12 h
          refine s_pick (l' := [(0, aR 51), (1, aI p1), (2, aI v2), (3, aI p3), (4, aI v4)]) [1, 2, 3, 4, 5] rfl ?_
          exact TJ_X12_spreads_80 hz hN hF (fun _ _ _ => ih) rp1 rv2 rp3 rv4 hW8 h
        · have h := zif_f c12 h
          refine s_aload_n 1 hz dX12_spreads_61 rfl ?_
          refine s_getR 39 hz fl_X12_108 sf51 rfl (by decide) dX12_spreads_62 ?_
          refine s_iload 0 hz dX12_spreads_65 rfl ?_
          refine s_iload_n 2 hz dX12_spreads_67 rfl ?_
          obtain ⟨g13, h⟩ := zg_of h
          obtain ⟨S14, eS14, h⟩ := zs_ex h
          have hW14 : WR shF S14 := by rw [eS14]; exact hW8.up (i := r7) sf75 (v := p1) rp1
          refine s_iast hz sf75 rfl (by decide) g13 dX12_spreads_68 ?_
          rw [← eS14]
          refine s_aload_n 1 hz dX12_spreads_69 rfl ?_
          refine s_getR 40 hz fl_X12_111 sf51 rfl (by decide) dX12_spreads_70 ?_
          refine s_iload_n 3 hz dX12_spreads_73 rfl ?_
          refine s_iload 0 hz dX12_spreads_74 rfl ?_
          obtain ⟨g15, h⟩ := zg_of h
          obtain ⟨S16, eS16, h⟩ := zs_ex h
          have hW16 : WR shF S16 := by rw [eS16]; exact hW14.up (i := v2) sf76 (v := r7) rr7
          refine s_iast hz sf76 rfl (by decide) g15 dX12_spreads_76 ?_
          rw [← eS16]
          obtain ⟨x17, ex17, rx17, h⟩ := zl_ex h
          refine s_iinc (k0 := 3) (y := x17) (l' := [(2, aI x17), (5, aI r7), (0, aR 51), (1, aI p1), (3, aI p3), (4, aI v4)]) hz hN dX12_spreads_77 rfl ex17.symm (by decide) rfl ?_
          refine s_pick (l' := [(0, aR 51), (1, aI p1), (2, aI x17), (3, aI p3), (4, aI v4)]) [2, 3, 0, 4, 5] rfl ?_
          exact TJ_X12_spreads_80 hz hN hF (fun _ _ _ => ih) rp1 rx17 rp3 rv4 hW16 h
def L_X12_spreads_18 (p1 : Int) : Nat → Int → Int → HS → zO2
  | 0, _, _, _ => none
  | n + 1, v2, v3, S => 
    if v2 ≤ v3 then (
      some (0, S))
    else (
      L_X12_spreads_26 (fun e2 S18 =>
          zl (v3 + 1) fun x19 =>
          L_X12_spreads_18 p1 n e2 x19 S18) p1 v3 zBig v2 0 S)
set_option maxHeartbeats 4000000 in
set_option maxRecDepth 20000 in
theorem TL_X12_spreads_18 {p1 : Int} {r : Int} {S' : HS} {z : Zt} (hz : zO z cX12_spreads RX12 4 shF) (hN : zN z 6) (hF : zFv z shF S') (rp1 : rng p1) : ∀ (n : Nat) {v2 : Int} {v3 : Int} {S : HS}, rng v2 → rng v3 → WR shF S → L_X12_spreads_18 p1 n v2 v3 S = some (r, S') → zA z 18 [(0, aR 51), (1, aI p1), (2, aI v2), (3, aI v3)] [] S := by
  intro n
  induction n with
  | zero =>
    intro _ _ _ _ _ _ h
    cases h
  | succ n ih =>
    intro v2 v3 S rv2 rv3 hW h
    rw [L_X12_spreads_18.eq_2] at h
    refine s_iload_n 3 hz dX12_spreads_18 rfl ?_
    refine s_iload_n 2 hz dX12_spreads_19 rfl ?_
    refine s_icmp_ge 92 hz rv3 rv2 dX12_spreads_20 rfl (fun c4 => ?_) (fun c4 => ?_)
    · have h := zif_t c4 h
      exact s_vret h hz hF hW dX12_spreads_92
    · have h := zif_f c4 h
      refine s_iconst hz dX12_spreads_23 ?_
      refine s_istore (l' := [(4, aI 0), (0, aR 51), (1, aI p1), (2, aI v2), (3, aI v3)]) hz hN dX12_spreads_24 (by decide) rfl ?_
      refine s_pick (l' := [(0, aR 51), (1, aI p1), (2, aI v2), (3, aI v3), (4, aI 0)]) [1, 2, 3, 4, 0] rfl ?_
      refine TL_X12_spreads_26 hz hN hF ?_ rp1 rv3 zBig rv2 rl_0 hW h
      · clear h 
        intro e2 S18 re2 hW18 h
        obtain ⟨x19, ex19, rx19, h⟩ := zl_ex h
        refine s_iinc (k0 := 3) (y := x19) (l' := [(3, aI x19), (0, aR 51), (1, aI p1), (2, aI e2)]) hz hN dX12_spreads_86 rfl ex19.symm (by decide) rfl ?_
        refine s_goto 18 hz dX12_spreads_89 rfl ?_
        refine s_pick (l' := [(0, aR 51), (1, aI p1), (2, aI e2), (3, aI x19)]) [1, 2, 3, 0] rfl ?_
        exact ih re2 rx19 hW18 h
def M_X12_spreads (a1 : Int) (S : HS) : zO2 :=
  zs (up S 76 0 a1) fun S1 =>
  zg ((0 : Int) ≤ a1 ∧ a1 < 192) <|
  zs (up S1 75 a1 a1) fun S3 =>
  L_X12_spreads_18 a1 zBig 1 0 S3
set_option maxHeartbeats 4000000 in
set_option maxRecDepth 20000 in
theorem T_X12_spreads {a1 : Int} {S S' : HS} {r : Int} (ra1 : rng a1) (hW : WR shF S) (h : M_X12_spreads a1 S = some (r, S')) : zV shF yX12_spreads cX12_spreads 6 4 [aR 51, aI a1] S S' := by
  refine zV_of (by decide +kernel) (Nat.le_of_ble_eq_true rfl) (fun z hz hN hF => ?_)
  have hz : zO z cX12_spreads RX12 4 shF := hz
  show zA z 0 [(0, aR 51), (1, aI a1)] [] S
  unfold M_X12_spreads at h
  refine s_iconst hz dX12_spreads_0 ?_
  refine s_istore_n (l' := [(2, aI 1), (0, aR 51), (1, aI a1)]) hz hN dX12_spreads_1 (by decide) rfl ?_
  refine s_aload_n 1 hz dX12_spreads_2 rfl ?_
  refine s_getR 40 hz fl_X12_111 sf51 rfl (by decide) dX12_spreads_3 ?_
  refine s_iconst hz dX12_spreads_6 ?_
  refine s_iload_n 2 hz dX12_spreads_7 rfl ?_
  obtain ⟨S1, eS1, h⟩ := zs_ex h
  have hW1 : WR shF S1 := by rw [eS1]; exact hW.up (i := 0) sf76 (v := a1) ra1
  refine s_iast hz sf76 rfl (by decide) (by decide) dX12_spreads_8 ?_
  rw [← eS1]
  refine s_aload_n 1 hz dX12_spreads_9 rfl ?_
  refine s_getR 39 hz fl_X12_108 sf51 rfl (by decide) dX12_spreads_10 ?_
  refine s_iload_n 2 hz dX12_spreads_13 rfl ?_
  refine s_iload_n 2 hz dX12_spreads_14 rfl ?_
  obtain ⟨g2, h⟩ := zg_of h
  obtain ⟨S3, eS3, h⟩ := zs_ex h
  have hW3 : WR shF S3 := by rw [eS3]; exact hW1.up (i := a1) sf75 (v := a1) ra1
  refine s_iast hz sf75 rfl (by decide) g2 dX12_spreads_15 ?_
  rw [← eS3]
  refine s_iconst hz dX12_spreads_16 ?_
  refine s_istore_n (l' := [(3, aI 0), (2, aI 1), (0, aR 51), (1, aI a1)]) hz hN dX12_spreads_17 (by decide) rfl ?_
  refine s_pick (l' := [(0, aR 51), (1, aI a1), (2, aI 1), (3, aI 0)]) [2, 3, 1, 0] rfl ?_
  exact TL_X12_spreads_18 hz hN hF ra1 zBig rl_1 rl_0 hW3 h
def L_X12_findRegions_2 (k22 : HS → zO2) : Nat → Int → HS → zO2
  | 0, _, _ => none
  | n + 1, v1, S => 
    if 192 ≤ v1 then (
      k22 S)
    else (
      zg ((0 : Int) ≤ v1 ∧ v1 < 192) <|
      zs (up S 75 v1 (-1)) fun S3 =>
      zl (v1 + 1) fun x4 =>
      L_X12_findRegions_2 k22 n x4 S3)
set_option maxHeartbeats 4000000 in
set_option maxRecDepth 20000 in
theorem TL_X12_findRegions_2 {k22 : HS → zO2} {r : Int} {S' : HS} {z : Zt} (hz : zO z cX12_findRegions RX12 5 shF) (hN : zN z 3) (hF : zFi z shF .int r S') (hk22 : ∀ (S : HS), WR shF S → k22 S = some (r, S') → zA z 22 [(0, aR 51)] [] S) : ∀ (n : Nat) {v1 : Int} {S : HS}, rng v1 → WR shF S → L_X12_findRegions_2 k22 n v1 S = some (r, S') → zA z 2 [(0, aR 51), (1, aI v1)] [] S := by
  intro n
  induction n with
  | zero =>
    intro _ _ _ _ h
    cases h
  | succ n ih =>
    intro v1 S rv1 hW h
    rw [L_X12_findRegions_2.eq_2] at h
    refine s_iload_n 1 hz dX12_findRegions_2 rfl ?_
    refine s_sipush hz dX12_findRegions_3 sp_192 ?_
    refine s_icmp_ge 22 hz rv1 rl_192 dX12_findRegions_6 rfl (fun c1 => ?_) (fun c1 => ?_)
    · have h := zif_t c1 h
      refine s_pick (l' := [(0, aR 51)]) [0] rfl ?_
      exact hk22 _ hW h
    · have h := zif_f c1 h
      refine s_aload_n 0 hz dX12_findRegions_9 rfl ?_
      refine s_getR 39 hz fl_X12_108 sf51 rfl (by decide) dX12_findRegions_10 ?_
      refine s_iload_n 1 hz dX12_findRegions_13 rfl ?_
      refine s_iconst hz dX12_findRegions_14 ?_
      obtain ⟨g2, h⟩ := zg_of h
      obtain ⟨S3, eS3, h⟩ := zs_ex h
      have hW3 : WR shF S3 := by rw [eS3]; exact hW.up (i := v1) sf75 (v := (-1)) rl_m1
      refine s_iast hz sf75 rfl (by decide) g2 dX12_findRegions_15 ?_
      rw [← eS3]
      obtain ⟨x4, ex4, rx4, h⟩ := zl_ex h
      refine s_iinc (k0 := 1) (y := x4) (l' := [(1, aI x4), (0, aR 51)]) hz hN dX12_findRegions_16 rfl ex4.symm (by decide) rfl ?_
      refine s_goto 2 hz dX12_findRegions_19 rfl ?_
      refine s_pick (l' := [(0, aR 51), (1, aI x4)]) [1, 0] rfl ?_
      exact ih rx4 hW3 h
def J_X12_findRegions_59 (k26 : Int → Int → HS → zO2) (v1 : Int) (v2 : Int) (S : HS) : zO2 :=
  zl (v2 + 1) fun x9 =>
  k26 v1 x9 S
set_option maxHeartbeats 4000000 in
set_option maxRecDepth 20000 in
theorem TJ_X12_findRegions_59 {k26 : Int → Int → HS → zO2} {v1 : Int} {v2 : Int} {S : HS} {r : Int} {S' : HS} {z : Zt} (hz : zO z cX12_findRegions RX12 5 shF) (hN : zN z 3) (hF : zFi z shF .int r S') (hk26 : ∀ (w1 w2 : Int) (S : HS), rng w1 → rng w2 → WR shF S → k26 w1 w2 S = some (r, S') → zA z 26 [(0, aR 51), (1, aI w1), (2, aI w2)] [] S) (rv1 : rng v1) (rv2 : rng v2) (hW : WR shF S) (h : J_X12_findRegions_59 k26 v1 v2 S = some (r, S')) : zA z 59 [(0, aR 51), (1, aI v1), (2, aI v2)] [] S := by
  unfold J_X12_findRegions_59 at h
  obtain ⟨x9, ex9, rx9, h⟩ := zl_ex h
  refine s_iinc (k0 := 2) (y := x9) (l' := [(2, aI x9), (0, aR 51), (1, aI v1)]) hz hN dX12_findRegions_59 rfl ex9.symm (by decide) rfl ?_
  refine s_goto 26 hz dX12_findRegions_62 rfl ?_
  refine s_pick (l' := [(0, aR 51), (1, aI v1), (2, aI x9)]) [1, 2, 0] rfl ?_
  exact hk26 _ _ _ rv1 rx9 hW h
def L_X12_findRegions_26 : Nat → Int → Int → HS → zO2
  | 0, _, _, _ => none
  | n + 1, v1, v2, S => 
    if 192 ≤ v2 then (
      some (v1, S))
    else (
      zg ((0 : Int) ≤ v2 ∧ v2 < 192) <|
      if S 67 v2 < 0 then (
        J_X12_findRegions_59 (L_X12_findRegions_26 n) v1 v2 S)
      else (
        zg ((0 : Int) ≤ v2 ∧ v2 < 192) <|
        if 0 ≤ S 75 v2 then (
          J_X12_findRegions_59 (L_X12_findRegions_26 n) v1 v2 S)
        else (
          zb (M_X12_spreads v2 S) fun _ S13 =>
          zl (v1 + 1) fun x14 =>
          J_X12_findRegions_59 (L_X12_findRegions_26 n) x14 v2 S13)))
set_option maxHeartbeats 4000000 in
set_option maxRecDepth 20000 in
theorem TL_X12_findRegions_26 {r : Int} {S' : HS} {z : Zt} (hz : zO z cX12_findRegions RX12 5 shF) (hN : zN z 3) (hF : zFi z shF .int r S') : ∀ (n : Nat) {v1 : Int} {v2 : Int} {S : HS}, rng v1 → rng v2 → WR shF S → L_X12_findRegions_26 n v1 v2 S = some (r, S') → zA z 26 [(0, aR 51), (1, aI v1), (2, aI v2)] [] S := by
  intro n
  induction n with
  | zero =>
    intro _ _ _ _ _ _ h
    cases h
  | succ n ih =>
    intro v1 v2 S rv1 rv2 hW h
    rw [L_X12_findRegions_26.eq_2] at h
    refine s_iload_n 2 hz dX12_findRegions_26 rfl ?_
    refine s_sipush hz dX12_findRegions_27 sp_192 ?_
    refine s_icmp_ge 65 hz rv2 rl_192 dX12_findRegions_30 rfl (fun c6 => ?_) (fun c6 => ?_)
    · have h := zif_t c6 h
      refine s_iload_n 1 hz dX12_findRegions_65 rfl ?_
      exact s_iret h hz hF rv1 hW dX12_findRegions_66
    · have h := zif_f c6 h
      refine s_aload_n 0 hz dX12_findRegions_33 rfl ?_
      refine s_getR 28 hz fl_X12_84 sf51 rfl (by decide) dX12_findRegions_34 ?_
      refine s_iload_n 2 hz dX12_findRegions_37 rfl ?_
      obtain ⟨g7, h⟩ := zg_of h
      refine s_iald hz sf67 rfl (by decide) g7 dX12_findRegions_38 ?_
      refine s_if_lt 59 hz (hW 67 _ sf67 v2) dX12_findRegions_39 rfl (fun c8 => ?_) (fun c8 => ?_)
      · have h := zif_t c8 h
        exact TJ_X12_findRegions_59 hz hN hF (fun _ _ _ => ih) rv1 rv2 hW h
      · have h := zif_f c8 h
        refine s_aload_n 0 hz dX12_findRegions_42 rfl ?_
        refine s_getR 39 hz fl_X12_108 sf51 rfl (by decide) dX12_findRegions_43 ?_
        refine s_iload_n 2 hz dX12_findRegions_46 rfl ?_
        obtain ⟨g10, h⟩ := zg_of h
        refine s_iald hz sf75 rfl (by decide) g10 dX12_findRegions_47 ?_
        refine s_if_ge 59 hz (hW 75 _ sf75 v2) dX12_findRegions_48 rfl (fun c11 => ?_) (fun c11 => ?_)
        · have h := zif_t c11 h
          exact TJ_X12_findRegions_59 hz hN hF (fun _ _ _ => ih) rv1 rv2 hW h
        · have h := zif_f c11 h
          refine s_aload_n 0 hz dX12_findRegions_51 rfl ?_
          refine s_iload_n 2 hz dX12_findRegions_52 rfl ?_
          obtain ⟨r12, S13, hc13, h⟩ := zb_of h
          refine s_callVv [aI v2] [] hz ml_X12_339 sv_yX12_spreads (T_X12_spreads rv2 hW hc13) (by decide) rfl sf51 rfl rfl (Nat.le_of_ble_eq_true rfl) dX12_findRegions_53 (fun hW13 => ?_)
          obtain ⟨x14, ex14, rx14, h⟩ := zl_ex h
          refine s_iinc (k0 := 1) (y := x14) (l' := [(1, aI x14), (0, aR 51), (2, aI v2)]) hz hN dX12_findRegions_56 rfl ex14.symm (by decide) rfl ?_
          refine s_pick (l' := [(0, aR 51), (1, aI x14), (2, aI v2)]) [1, 0, 2] rfl ?_
          exact TJ_X12_findRegions_59 hz hN hF (fun _ _ _ => ih) rx14 rv2 hW13 h
def M_X12_findRegions (S : HS) : zO2 :=
  L_X12_findRegions_2 (fun S5 =>
      L_X12_findRegions_26 zBig 0 0 S5) zBig 0 S
set_option maxHeartbeats 4000000 in
set_option maxRecDepth 20000 in
theorem T_X12_findRegions {S S' : HS} {r : Int} (hW : WR shF S) (h : M_X12_findRegions S = some (r, S')) : zR shF yX12_findRegions cX12_findRegions 3  .int 5 [aR 51] S r S' := by
  refine zR_of (by decide +kernel) (Nat.le_of_ble_eq_true rfl) (fun z hz hN hF => ?_)
  have hz : zO z cX12_findRegions RX12 5 shF := hz
  show zA z 0 [(0, aR 51)] [] S
  unfold M_X12_findRegions at h
  refine s_iconst hz dX12_findRegions_0 ?_
  refine s_istore_n (l' := [(1, aI 0), (0, aR 51)]) hz hN dX12_findRegions_1 (by decide) rfl ?_
  refine s_pick (l' := [(0, aR 51), (1, aI 0)]) [1, 0] rfl ?_
  refine TL_X12_findRegions_2 hz hN hF ?_ zBig rl_0 hW h
  · clear h 
    intro S5 hW5 h
    refine s_iconst hz dX12_findRegions_22 ?_
    refine s_istore_n (l' := [(1, aI 0), (0, aR 51)]) hz hN dX12_findRegions_23 (by decide) rfl ?_
    refine s_iconst hz dX12_findRegions_24 ?_
    refine s_istore_n (l' := [(2, aI 0), (1, aI 0), (0, aR 51)]) hz hN dX12_findRegions_25 (by decide) rfl ?_
    refine s_pick (l' := [(0, aR 51), (1, aI 0), (2, aI 0)]) [2, 1, 0] rfl ?_
    exact TL_X12_findRegions_26 hz hN hF zBig rl_0 rl_0 hW5 h
def M_X12_region (a1 : Int) (a2 : Int) (S : HS) : zO2 :=
  zs (up S 51 0 0) fun S1 =>
  zb (M_X12_isScalp a1 a2 S1) fun r2 S3 =>
  if r2 = 0 then (
    some ((-1), S3))
  else (
    zb (M_X12_findRegions S3) fun r5 S6 =>
    zg ((0 : Int) ≤ (16 * a2) + a1 ∧ (16 * a2) + a1 < 192) <|
    some (S6 75 ((16 * a2) + a1), S6))
set_option maxHeartbeats 4000000 in
set_option maxRecDepth 20000 in
theorem T_X12_region {a1 : Int} {a2 : Int} {S S' : HS} {r : Int} (ra1 : rng a1) (ra2 : rng a2) (hW : WR shF S) (h : M_X12_region a1 a2 S = some (r, S')) : zR shF yX12_region cX12_region 4  .int 6 [aR 51, aI a1, aI a2] S r S' := by
  refine zR_of (by decide +kernel) (Nat.le_of_ble_eq_true rfl) (fun z hz hN hF => ?_)
  have hz : zO z cX12_region RX12 6 shF := hz
  show zA z 0 [(0, aR 51), (1, aI a1), (2, aI a2)] [] S
  unfold M_X12_region at h
  refine s_aload_n 0 hz dX12_region_0 rfl ?_
  refine s_iconst hz dX12_region_1 ?_
  obtain ⟨S1, eS1, h⟩ := zs_ex h
  have hW1 : WR shF S1 := by rw [eS1]; exact hW.up (i := 0) sf51 (v := 0) rl_0
  refine s_putI (kz := 0) 0 hz fp_X12_1 sf51 rfl rfl dX12_region_2 ?_
  rw [← eS1]
  refine s_aload_n 0 hz dX12_region_5 rfl ?_
  refine s_iload_n 1 hz dX12_region_6 rfl ?_
  refine s_iload_n 2 hz dX12_region_7 rfl ?_
  obtain ⟨r2, S3, hc3, h⟩ := zb_of h
  refine s_callV [aI a1, aI a2] [] hz ml_X12_314 sv_yX12_isScalp (T_X12_isScalp ra1 ra2 hW1 hc3) (by decide) rfl sf51 rfl rfl (Nat.le_of_ble_eq_true rfl) dX12_region_8 (fun rr2 hW3 => ?_)
  refine s_if_ne 16 hz rr2 dX12_region_11 rfl (fun c4 => ?_) (fun c4 => ?_)
  · have h := zif_f c4 h
    refine s_aload_n 0 hz dX12_region_16 rfl ?_
    obtain ⟨r5, S6, hc6, h⟩ := zb_of h
    refine s_callV [] [] hz ml_X12_345 sv_yX12_findRegions (T_X12_findRegions hW3 hc6) (by decide) rfl sf51 rfl rfl (Nat.le_of_ble_eq_true rfl) dX12_region_17 (fun rr5 hW6 => ?_)
    refine s_istore_n (l' := [(3, aI r5), (0, aR 51), (1, aI a1), (2, aI a2)]) hz hN dX12_region_20 (by decide) rfl ?_
    refine s_aload_n 1 hz dX12_region_21 rfl ?_
    refine s_getR 39 hz fl_X12_108 sf51 rfl (by decide) dX12_region_22 ?_
    refine s_bipush hz dX12_region_25 bp_16 ?_
    refine s_iload_n 3 hz dX12_region_27 rfl ?_
    refine s_imul hz dX12_region_28 ?_
    refine s_iload_n 2 hz dX12_region_29 rfl ?_
    refine s_iadd hz dX12_region_30 ?_
    obtain ⟨g7, h⟩ := zg_of h
    refine s_iald hz sf75 rfl (by decide) g7 dX12_region_31 ?_
    exact s_iret h hz hF (hW6 75 _ sf75 ((16 * a2) + a1)) hW6 dX12_region_32
  · have h := zif_t c4 h
    refine s_iconst hz dX12_region_14 ?_
    exact s_iret h hz hF rl_m1 hW3 dX12_region_15
def J_X12_nearestBy_59 (k5 : Int → Int → HS → zO2) (v1 : Int) (v2 : Int) (v3 : Int) (v4 : Int) (S : HS) : zO2 :=
  zl (v4 + 1) fun x5 =>
  k5 v3 x5 S
set_option maxHeartbeats 4000000 in
set_option maxRecDepth 20000 in
theorem TJ_X12_nearestBy_59 {k5 : Int → Int → HS → zO2} {v1 : Int} {v2 : Int} {v3 : Int} {v4 : Int} {S : HS} {r : Int} {S' : HS} {z : Zt} (hz : zO z cX12_nearestBy RX12 4 shF) (hN : zN z 6) (hF : zFi z shF .int r S') (hk5 : ∀ (w3 w4 : Int) (S : HS), rng w3 → rng w4 → WR shF S → k5 w3 w4 S = some (r, S') → zA z 5 [(0, aR 51), (1, aI v1), (2, aI v2), (3, aI w3), (4, aI w4)] [] S) (rv1 : rng v1) (rv2 : rng v2) (rv3 : rng v3) (rv4 : rng v4) (hW : WR shF S) (h : J_X12_nearestBy_59 k5 v1 v2 v3 v4 S = some (r, S')) : zA z 59 [(0, aR 51), (1, aI v1), (2, aI v2), (3, aI v3), (4, aI v4)] [] S := by
  unfold J_X12_nearestBy_59 at h
  obtain ⟨x5, ex5, rx5, h⟩ := zl_ex h
  refine s_iinc (k0 := 4) (y := x5) (l' := [(4, aI x5), (0, aR 51), (1, aI v1), (2, aI v2), (3, aI v3)]) hz hN dX12_nearestBy_59 rfl ex5.symm (by decide) rfl ?_
  refine s_goto 5 hz dX12_nearestBy_62 rfl ?_
  refine s_pick (l' := [(0, aR 51), (1, aI v1), (2, aI v2), (3, aI v3), (4, aI x5)]) [1, 2, 3, 4, 0] rfl ?_
  exact hk5 _ _ _ rv3 rx5 hW h
def J_X12_nearestBy_51 (k5 : Int → Int → HS → zO2) (v1 : Int) (v2 : Int) (v4 : Int) (v5 : Int) (S : HS) : zO2 :=
  zg ((0 : Int) ≤ v5 ∧ v5 < 192) <|
  J_X12_nearestBy_59 k5 v1 v2 (S 77 v5) v4 S
set_option maxHeartbeats 4000000 in
set_option maxRecDepth 20000 in
theorem TJ_X12_nearestBy_51 {k5 : Int → Int → HS → zO2} {v1 : Int} {v2 : Int} {v4 : Int} {v5 : Int} {S : HS} {r : Int} {S' : HS} {z : Zt} (hz : zO z cX12_nearestBy RX12 4 shF) (hN : zN z 6) (hF : zFi z shF .int r S') (hk5 : ∀ (w3 w4 : Int) (S : HS), rng w3 → rng w4 → WR shF S → k5 w3 w4 S = some (r, S') → zA z 5 [(0, aR 51), (1, aI v1), (2, aI v2), (3, aI w3), (4, aI w4)] [] S) (rv1 : rng v1) (rv2 : rng v2) (rv4 : rng v4) (rv5 : rng v5) (hW : WR shF S) (h : J_X12_nearestBy_51 k5 v1 v2 v4 v5 S = some (r, S')) : zA z 51 [(0, aR 51), (1, aI v1), (2, aI v2), (4, aI v4), (5, aI v5)] [] S := by
  unfold J_X12_nearestBy_51 at h
  refine s_aload_n 0 hz dX12_nearestBy_51 rfl ?_
  refine s_getR 41 hz fl_X12_114 sf51 rfl (by decide) dX12_nearestBy_52 ?_
  refine s_iload 4 hz dX12_nearestBy_55 rfl ?_
  obtain ⟨g9, h⟩ := zg_of h
  refine s_iald hz sf77 rfl (by decide) g9 dX12_nearestBy_57 ?_
  refine s_istore_n (l' := [(3, aI (S 77 v5)), (0, aR 51), (1, aI v1), (2, aI v2), (4, aI v4), (5, aI v5)]) hz hN dX12_nearestBy_58 (by decide) rfl ?_
  refine s_pick (l' := [(0, aR 51), (1, aI v1), (2, aI v2), (3, aI (S 77 v5)), (4, aI v4)]) [1, 2, 3, 0, 4] rfl ?_
  exact TJ_X12_nearestBy_59 hz hN hF hk5 rv1 rv2 (hW 77 _ sf77 v5) rv4 hW h
def L_X12_nearestBy_5 (p1 : Int) (p2 : Int) : Nat → Int → Int → HS → zO2
  | 0, _, _, _ => none
  | n + 1, v3, v4, S => 
    if 4 ≤ v4 then (
      some (v3, S))
    else (
      zb (M_X12_beside p1 v4 S) fun r2 S3 =>
      if r2 < 0 then (
        J_X12_nearestBy_59 (L_X12_nearestBy_5 p1 p2 n) p1 p2 v3 v4 S3)
      else (
        zg ((0 : Int) ≤ r2 ∧ r2 < 192) <|
        if S3 78 r2 = p2 then (
          if v3 < 0 then (
            J_X12_nearestBy_51 (L_X12_nearestBy_5 p1 p2 n) p1 p2 v4 r2 S3)
          else (
            zg ((0 : Int) ≤ r2 ∧ r2 < 192) <|
            if v3 ≤ S3 77 r2 then (
              J_X12_nearestBy_59 (L_X12_nearestBy_5 p1 p2 n) p1 p2 v3 v4 S3)
            else (
              J_X12_nearestBy_51 (L_X12_nearestBy_5 p1 p2 n) p1 p2 v4 r2 S3)))
        else (
          J_X12_nearestBy_59 (L_X12_nearestBy_5 p1 p2 n) p1 p2 v3 v4 S3)))
set_option maxHeartbeats 4000000 in
set_option maxRecDepth 20000 in
theorem TL_X12_nearestBy_5 {p1 : Int} {p2 : Int} {r : Int} {S' : HS} {z : Zt} (hz : zO z cX12_nearestBy RX12 4 shF) (hN : zN z 6) (hF : zFi z shF .int r S') (rp1 : rng p1) (rp2 : rng p2) : ∀ (n : Nat) {v3 : Int} {v4 : Int} {S : HS}, rng v3 → rng v4 → WR shF S → L_X12_nearestBy_5 p1 p2 n v3 v4 S = some (r, S') → zA z 5 [(0, aR 51), (1, aI p1), (2, aI p2), (3, aI v3), (4, aI v4)] [] S := by
  intro n
  induction n with
  | zero =>
    intro _ _ _ _ _ _ h
    cases h
  | succ n ih =>
    intro v3 v4 S rv3 rv4 hW h
    rw [L_X12_nearestBy_5.eq_2] at h
    refine s_iload 4 hz dX12_nearestBy_5 rfl ?_
    refine s_iconst hz dX12_nearestBy_7 ?_
    refine s_icmp_ge 65 hz rv4 rl_4 dX12_nearestBy_8 rfl (fun c1 => ?_) (fun c1 => ?_)
    · have h := zif_t c1 h
      refine s_iload_n 3 hz dX12_nearestBy_65 rfl ?_
      exact s_iret h hz hF rv3 hW dX12_nearestBy_66
    · have h := zif_f c1 h
      refine s_aload_n 0 hz dX12_nearestBy_11 rfl ?_
      refine s_iload_n 1 hz dX12_nearestBy_12 rfl ?_
      refine s_iload 4 hz dX12_nearestBy_13 rfl ?_
      obtain ⟨r2, S3, hc3, h⟩ := zb_of h
      refine s_callV [aI p1, aI v4] [] hz ml_X12_342 sv_yX12_beside (T_X12_beside rp1 rv4 hW hc3) (by decide) rfl sf51 rfl rfl (Nat.le_of_ble_eq_true rfl) dX12_nearestBy_15 (fun rr2 hW3 => ?_)
      refine s_istore (l' := [(5, aI r2), (0, aR 51), (1, aI p1), (2, aI p2), (3, aI v3), (4, aI v4)]) hz hN dX12_nearestBy_18 (by decide) rfl ?_
      refine s_iload 0 hz dX12_nearestBy_20 rfl ?_
      refine s_if_lt 59 hz rr2 dX12_nearestBy_22 rfl (fun c4 => ?_) (fun c4 => ?_)
      · have h := zif_t c4 h
        refine s_pick (l' := [(0, aR 51), (1, aI p1), (2, aI p2), (3, aI v3), (4, aI v4)]) [1, 2, 3, 4, 5] rfl ?_
        exact TJ_X12_nearestBy_59 hz hN hF (fun _ _ _ => ih) rp1 rp2 rv3 rv4 hW3 h
      · have h := zif_f c4 h
        refine s_aload_n 1 hz dX12_nearestBy_25 rfl ?_
        refine s_getR 42 hz fl_X12_117 sf51 rfl (by decide) dX12_nearestBy_26 ?_
        refine s_iload 0 hz dX12_nearestBy_29 rfl ?_
        obtain ⟨g6, h⟩ := zg_of h
        refine s_iald hz sf78 rfl (by decide) g6 dX12_nearestBy_31 ?_
        refine s_iload_n 3 hz dX12_nearestBy_32 rfl ?_
        refine s_icmp_ne 59 hz (hW3 78 _ sf78 r2) rp2 dX12_nearestBy_33 rfl (fun c7 => ?_) (fun c7 => ?_)
        · have h := zif_f c7 h
          refine s_pick (l' := [(0, aR 51), (1, aI p1), (2, aI p2), (3, aI v3), (4, aI v4)]) [1, 2, 3, 4, 5] rfl ?_
          exact TJ_X12_nearestBy_59 hz hN hF (fun _ _ _ => ih) rp1 rp2 rv3 rv4 hW3 h
        · have h := zif_t c7 h
          refine s_iload_n 4 hz dX12_nearestBy_36 rfl ?_
          refine s_if_lt 51 hz rv3 dX12_nearestBy_37 rfl (fun c8 => ?_) (fun c8 => ?_)
          · have h := zif_t c8 h
            refine s_pick (l' := [(0, aR 51), (1, aI p1), (2, aI p2), (4, aI v4), (5, aI r2)]) [1, 2, 3, 5, 0] rfl ?_
            exact TJ_X12_nearestBy_51 hz hN hF (fun _ _ _ => ih) rp1 rp2 rv4 rr2 hW3 h
          · have h := zif_f c8 h
            refine s_aload_n 1 hz dX12_nearestBy_40 rfl ?_
            refine s_getR 41 hz fl_X12_114 sf51 rfl (by decide) dX12_nearestBy_41 ?_
            refine s_iload 0 hz dX12_nearestBy_44 rfl ?_
            obtain ⟨g10, h⟩ := zg_of h
            refine s_iald hz sf77 rfl (by decide) g10 dX12_nearestBy_46 ?_
            refine s_iload_n 4 hz dX12_nearestBy_47 rfl ?_
            refine s_icmp_ge 59 hz (hW3 77 _ sf77 r2) rv3 dX12_nearestBy_48 rfl (fun c11 => ?_) (fun c11 => ?_)
            · have h := zif_t c11 h
              refine s_pick (l' := [(0, aR 51), (1, aI p1), (2, aI p2), (3, aI v3), (4, aI v4)]) [1, 2, 3, 4, 5] rfl ?_
              exact TJ_X12_nearestBy_59 hz hN hF (fun _ _ _ => ih) rp1 rp2 rv3 rv4 hW3 h
            · have h := zif_f c11 h
              refine s_pick (l' := [(0, aR 51), (1, aI p1), (2, aI p2), (4, aI v4), (5, aI r2)]) [1, 2, 3, 5, 0] rfl ?_
              exact TJ_X12_nearestBy_51 hz hN hF (fun _ _ _ => ih) rp1 rp2 rv4 rr2 hW3 h
def M_X12_nearestBy (a1 : Int) (a2 : Int) (S : HS) : zO2 :=
  L_X12_nearestBy_5 a1 a2 zBig (-1) 0 S
set_option maxHeartbeats 4000000 in
set_option maxRecDepth 20000 in
theorem T_X12_nearestBy {a1 : Int} {a2 : Int} {S S' : HS} {r : Int} (ra1 : rng a1) (ra2 : rng a2) (hW : WR shF S) (h : M_X12_nearestBy a1 a2 S = some (r, S')) : zR shF yX12_nearestBy cX12_nearestBy 6  .int 4 [aR 51, aI a1, aI a2] S r S' := by
  refine zR_of (by decide +kernel) (Nat.le_of_ble_eq_true rfl) (fun z hz hN hF => ?_)
  have hz : zO z cX12_nearestBy RX12 4 shF := hz
  show zA z 0 [(0, aR 51), (1, aI a1), (2, aI a2)] [] S
  unfold M_X12_nearestBy at h
  refine s_iconst hz dX12_nearestBy_0 ?_
  refine s_istore_n (l' := [(3, aI (-1)), (0, aR 51), (1, aI a1), (2, aI a2)]) hz hN dX12_nearestBy_1 (by decide) rfl ?_
  refine s_iconst hz dX12_nearestBy_2 ?_
  refine s_istore (l' := [(4, aI 0), (3, aI (-1)), (0, aR 51), (1, aI a1), (2, aI a2)]) hz hN dX12_nearestBy_3 (by decide) rfl ?_
  refine s_pick (l' := [(0, aR 51), (1, aI a1), (2, aI a2), (3, aI (-1)), (4, aI 0)]) [2, 3, 4, 1, 0] rfl ?_
  exact TL_X12_nearestBy_5 hz hN hF ra1 ra2 zBig rl_m1 rl_0 hW h
def J_X12_findTaken_36 (k2 : Int → HS → zO2) (v1 : Int) (t0 : Int) (t1 : Int) (S : HS) : zO2 :=
  zg ((0 : Int) ≤ t1 ∧ t1 < 192) <|
  zs (up S 78 t1 t0) fun S7 =>
  zl (v1 + 1) fun x8 =>
  k2 x8 S7
set_option maxHeartbeats 4000000 in
set_option maxRecDepth 20000 in
theorem TJ_X12_findTaken_36 {k2 : Int → HS → zO2} {v1 : Int} {t0 : Int} {t1 : Int} {S : HS} {r : Int} {S' : HS} {z : Zt} (hz : zO z cX12_findTaken RX12 5 shF) (hN : zN z 5) (hF : zFv z shF S') (hk2 : ∀ (w1 : Int) (S : HS), rng w1 → WR shF S → k2 w1 S = some (r, S') → zA z 2 [(0, aR 51), (1, aI w1)] [] S) (rv1 : rng v1) (rt0 : rng t0) (rt1 : rng t1) (hW : WR shF S) (h : J_X12_findTaken_36 k2 v1 t0 t1 S = some (r, S')) : zA z 36 [(0, aR 51), (1, aI v1)] [aI t0, aI t1, aR 78] S := by
  unfold J_X12_findTaken_36 at h
  obtain ⟨g6, h⟩ := zg_of h
  obtain ⟨S7, eS7, h⟩ := zs_ex h
  have hW7 : WR shF S7 := by rw [eS7]; exact hW.up (i := t1) sf78 (v := t0) rt0
  refine s_iast hz sf78 rfl (by decide) g6 dX12_findTaken_36 ?_
  rw [← eS7]
  obtain ⟨x8, ex8, rx8, h⟩ := zl_ex h
  refine s_iinc (k0 := 1) (y := x8) (l' := [(1, aI x8), (0, aR 51)]) hz hN dX12_findTaken_37 rfl ex8.symm (by decide) rfl ?_
  refine s_goto 2 hz dX12_findTaken_40 rfl ?_
  refine s_pick (l' := [(0, aR 51), (1, aI x8)]) [1, 0] rfl ?_
  exact hk2 _ _ rx8 hW7 h
def L_X12_findTaken_2 (k43 : HS → zO2) : Nat → Int → HS → zO2
  | 0, _, _ => none
  | n + 1, v1, S => 
    if 192 ≤ v1 then (
      k43 S)
    else (
      zg ((0 : Int) ≤ v1 ∧ v1 < 192) <|
      zs (up S 77 v1 (-2)) fun S3 =>
      zg ((0 : Int) ≤ v1 ∧ v1 < 192) <|
      if S3 68 v1 < 0 then (
        J_X12_findTaken_36 (L_X12_findTaken_2 k43 n) v1 (-1) v1 S3)
      else (
        J_X12_findTaken_36 (L_X12_findTaken_2 k43 n) v1 0 v1 S3))
set_option maxHeartbeats 4000000 in
set_option maxRecDepth 20000 in
theorem TL_X12_findTaken_2 {k43 : HS → zO2} {r : Int} {S' : HS} {z : Zt} (hz : zO z cX12_findTaken RX12 5 shF) (hN : zN z 5) (hF : zFv z shF S') (hk43 : ∀ (S : HS), WR shF S → k43 S = some (r, S') → zA z 43 [(0, aR 51)] [] S) : ∀ (n : Nat) {v1 : Int} {S : HS}, rng v1 → WR shF S → L_X12_findTaken_2 k43 n v1 S = some (r, S') → zA z 2 [(0, aR 51), (1, aI v1)] [] S := by
  intro n
  induction n with
  | zero =>
    intro _ _ _ _ h
    cases h
  | succ n ih =>
    intro v1 S rv1 hW h
    rw [L_X12_findTaken_2.eq_2] at h
    refine s_iload_n 1 hz dX12_findTaken_2 rfl ?_
    refine s_sipush hz dX12_findTaken_3 sp_192 ?_
    refine s_icmp_ge 43 hz rv1 rl_192 dX12_findTaken_6 rfl (fun c1 => ?_) (fun c1 => ?_)
    · have h := zif_t c1 h
      refine s_pick (l' := [(0, aR 51)]) [0] rfl ?_
      exact hk43 _ hW h
    · have h := zif_f c1 h
      refine s_aload_n 0 hz dX12_findTaken_9 rfl ?_
      refine s_getR 41 hz fl_X12_114 sf51 rfl (by decide) dX12_findTaken_10 ?_
      refine s_iload_n 1 hz dX12_findTaken_13 rfl ?_
      refine s_bipush hz dX12_findTaken_14 bp_m2 ?_
      obtain ⟨g2, h⟩ := zg_of h
      obtain ⟨S3, eS3, h⟩ := zs_ex h
      have hW3 : WR shF S3 := by rw [eS3]; exact hW.up (i := v1) sf77 (v := (-2)) rl_m2
      refine s_iast hz sf77 rfl (by decide) g2 dX12_findTaken_16 ?_
      rw [← eS3]
      refine s_aload_n 0 hz dX12_findTaken_17 rfl ?_
      refine s_getR 42 hz fl_X12_117 sf51 rfl (by decide) dX12_findTaken_18 ?_
      refine s_iload_n 1 hz dX12_findTaken_21 rfl ?_
      refine s_aload_n 0 hz dX12_findTaken_22 rfl ?_
      refine s_getR 29 hz fl_X12_87 sf51 rfl (by decide) dX12_findTaken_23 ?_
      refine s_iload_n 1 hz dX12_findTaken_26 rfl ?_
      obtain ⟨g4, h⟩ := zg_of h
      refine s_iald hz sf68 rfl (by decide) g4 dX12_findTaken_27 ?_
      refine s_if_lt 35 hz (hW3 68 _ sf68 v1) dX12_findTaken_28 rfl (fun c5 => ?_) (fun c5 => ?_)
      · have h := zif_t c5 h
        refine s_iconst hz dX12_findTaken_35 ?_
        exact TJ_X12_findTaken_36 hz hN hF (fun _ _ => ih) rv1 rl_m1 rv1 hW3 h
      · have h := zif_f c5 h
        refine s_iconst hz dX12_findTaken_31 ?_
        refine s_goto 36 hz dX12_findTaken_32 rfl ?_
        exact TJ_X12_findTaken_36 hz hN hF (fun _ _ => ih) rv1 rl_0 rv1 hW3 h
def L_X12_findTaken_55 (k95 : HS → zO2) (p1 : Int) : Nat → Int → HS → zO2
  | 0, _, _ => none
  | n + 1, v2, S => 
    zg ((0 : Int) ≤ p1 ∧ p1 < 24) <|
    if S 69 p1 ≤ v2 then (
      k95 S)
    else (
      zg ((0 : Int) ≤ (192 * p1) + v2 ∧ (192 * p1) + v2 < 4608) <|
      zl ((200 * p1) + v2) fun x14 =>
      zg ((0 : Int) ≤ S 70 ((192 * p1) + v2) ∧ S 70 ((192 * p1) + v2) < 192) <|
      zs (up S 77 (S 70 ((192 * p1) + v2)) x14) fun S16 =>
      zl (v2 + 1) fun x17 =>
      L_X12_findTaken_55 k95 p1 n x17 S16)
set_option maxHeartbeats 4000000 in
set_option maxRecDepth 20000 in
theorem TL_X12_findTaken_55 {k95 : HS → zO2} {p1 : Int} {r : Int} {S' : HS} {z : Zt} (hz : zO z cX12_findTaken RX12 5 shF) (hN : zN z 5) (hF : zFv z shF S') (hk95 : ∀ (S : HS), WR shF S → k95 S = some (r, S') → zA z 95 [(0, aR 51), (1, aI p1)] [] S) (rp1 : rng p1) : ∀ (n : Nat) {v2 : Int} {S : HS}, rng v2 → WR shF S → L_X12_findTaken_55 k95 p1 n v2 S = some (r, S') → zA z 55 [(0, aR 51), (1, aI p1), (2, aI v2)] [] S := by
  intro n
  induction n with
  | zero =>
    intro _ _ _ _ h
    cases h
  | succ n ih =>
    intro v2 S rv2 hW h
    rw [L_X12_findTaken_55.eq_2] at h
    refine s_iload_n 2 hz dX12_findTaken_55 rfl ?_
    refine s_aload_n 0 hz dX12_findTaken_56 rfl ?_
    refine s_getR 30 hz fl_X12_90 sf51 rfl (by decide) dX12_findTaken_57 ?_
    refine s_iload_n 1 hz dX12_findTaken_60 rfl ?_
    obtain ⟨g11, h⟩ := zg_of h
    refine s_iald hz sf69 rfl (by decide) g11 dX12_findTaken_61 ?_
    refine s_icmp_ge 95 hz rv2 (hW 69 _ sf69 p1) dX12_findTaken_62 rfl (fun c12 => ?_) (fun c12 => ?_)
    · have h := zif_t c12 h
      refine s_pick (l' := [(0, aR 51), (1, aI p1)]) [0, 1] rfl ?_
      exact hk95 _ hW h
    · have h := zif_f c12 h
      refine s_aload_n 0 hz dX12_findTaken_65 rfl ?_
      refine s_getR 41 hz fl_X12_114 sf51 rfl (by decide) dX12_findTaken_66 ?_
      refine s_aload_n 0 hz dX12_findTaken_69 rfl ?_
      refine s_getR 31 hz fl_X12_93 sf51 rfl (by decide) dX12_findTaken_70 ?_
      refine s_sipush hz dX12_findTaken_73 sp_192 ?_
      refine s_iload_n 1 hz dX12_findTaken_76 rfl ?_
      refine s_imul hz dX12_findTaken_77 ?_
      refine s_iload_n 2 hz dX12_findTaken_78 rfl ?_
      refine s_iadd hz dX12_findTaken_79 ?_
      obtain ⟨g13, h⟩ := zg_of h
      refine s_iald hz sf70 rfl (by decide) g13 dX12_findTaken_80 ?_
      refine s_sipush hz dX12_findTaken_81 sp_200 ?_
      refine s_iload_n 1 hz dX12_findTaken_84 rfl ?_
      refine s_imul hz dX12_findTaken_85 ?_
      refine s_iload_n 2 hz dX12_findTaken_86 rfl ?_
      refine s_iadd hz dX12_findTaken_87 ?_
      obtain ⟨x14, ex14, rx14, h⟩ := zl_ex h
      rw [← ex14]
      obtain ⟨g15, h⟩ := zg_of h
      obtain ⟨S16, eS16, h⟩ := zs_ex h
      have hW16 : WR shF S16 := by rw [eS16]; exact hW.up (i := (S 70 ((192 * p1) + v2))) sf77 (v := x14) rx14
      refine s_iast hz sf77 rfl (by decide) g15 dX12_findTaken_88 ?_
      rw [← eS16]
      obtain ⟨x17, ex17, rx17, h⟩ := zl_ex h
      refine s_iinc (k0 := 2) (y := x17) (l' := [(2, aI x17), (0, aR 51), (1, aI p1)]) hz hN dX12_findTaken_89 rfl ex17.symm (by decide) rfl ?_
      refine s_goto 55 hz dX12_findTaken_92 rfl ?_
      refine s_pick (l' := [(0, aR 51), (1, aI p1), (2, aI x17)]) [1, 2, 0] rfl ?_
      exact ih rx17 hW16 h
def L_X12_findTaken_45 (k101 : HS → zO2) : Nat → Int → HS → zO2
  | 0, _, _ => none
  | n + 1, v1, S => 
    if S 51 27 ≤ v1 then (
      k101 S)
    else (
      L_X12_findTaken_55 (fun S18 =>
          zl (v1 + 1) fun x19 =>
          L_X12_findTaken_45 k101 n x19 S18) v1 zBig 0 S)
set_option maxHeartbeats 4000000 in
set_option maxRecDepth 20000 in
theorem TL_X12_findTaken_45 {k101 : HS → zO2} {r : Int} {S' : HS} {z : Zt} (hz : zO z cX12_findTaken RX12 5 shF) (hN : zN z 5) (hF : zFv z shF S') (hk101 : ∀ (S : HS), WR shF S → k101 S = some (r, S') → zA z 101 [(0, aR 51)] [] S) : ∀ (n : Nat) {v1 : Int} {S : HS}, rng v1 → WR shF S → L_X12_findTaken_45 k101 n v1 S = some (r, S') → zA z 45 [(0, aR 51), (1, aI v1)] [] S := by
  intro n
  induction n with
  | zero =>
    intro _ _ _ _ h
    cases h
  | succ n ih =>
    intro v1 S rv1 hW h
    rw [L_X12_findTaken_45.eq_2] at h
    refine s_iload_n 1 hz dX12_findTaken_45 rfl ?_
    refine s_aload_n 0 hz dX12_findTaken_46 rfl ?_
    refine s_getI (kz := 27) 27 hz fl_X12_256 sf51 rfl rfl dX12_findTaken_47 ?_
    refine s_icmp_ge 101 hz rv1 (hW 51 _ sf51 27) dX12_findTaken_50 rfl (fun c10 => ?_) (fun c10 => ?_)
    · have h := zif_t c10 h
      refine s_pick (l' := [(0, aR 51)]) [0] rfl ?_
      exact hk101 _ hW h
    · have h := zif_f c10 h
      refine s_iconst hz dX12_findTaken_53 ?_
      refine s_istore_n (l' := [(2, aI 0), (0, aR 51), (1, aI v1)]) hz hN dX12_findTaken_54 (by decide) rfl ?_
      refine s_pick (l' := [(0, aR 51), (1, aI v1), (2, aI 0)]) [1, 2, 0] rfl ?_
      refine TL_X12_findTaken_55 hz hN hF ?_ rv1 zBig rl_0 hW h
      · clear h 
        intro S18 hW18 h
        obtain ⟨x19, ex19, rx19, h⟩ := zl_ex h
        refine s_iinc (k0 := 1) (y := x19) (l' := [(1, aI x19), (0, aR 51)]) hz hN dX12_findTaken_95 rfl ex19.symm (by decide) rfl ?_
        refine s_goto 45 hz dX12_findTaken_98 rfl ?_
        refine s_pick (l' := [(0, aR 51), (1, aI x19)]) [1, 0] rfl ?_
        exact ih rx19 hW18 h
def J_X12_findTaken_171 (k113 : Int → Int → HS → zO2) (v1 : Int) (v2 : Int) (v3 : Int) (S : HS) : zO2 :=
  zl (v3 + 1) fun x25 =>
  k113 v1 x25 S
set_option maxHeartbeats 4000000 in
set_option maxRecDepth 20000 in
theorem TJ_X12_findTaken_171 {k113 : Int → Int → HS → zO2} {v1 : Int} {v2 : Int} {v3 : Int} {S : HS} {r : Int} {S' : HS} {z : Zt} (hz : zO z cX12_findTaken RX12 5 shF) (hN : zN z 5) (hF : zFv z shF S') (hk113 : ∀ (w1 w3 : Int) (S : HS), rng w1 → rng w3 → WR shF S → k113 w1 w3 S = some (r, S') → zA z 113 [(0, aR 51), (1, aI w1), (2, aI v2), (3, aI w3)] [] S) (rv1 : rng v1) (rv2 : rng v2) (rv3 : rng v3) (hW : WR shF S) (h : J_X12_findTaken_171 k113 v1 v2 v3 S = some (r, S')) : zA z 171 [(0, aR 51), (1, aI v1), (2, aI v2), (3, aI v3)] [] S := by
  unfold J_X12_findTaken_171 at h
  obtain ⟨x25, ex25, rx25, h⟩ := zl_ex h
  refine s_iinc (k0 := 3) (y := x25) (l' := [(3, aI x25), (0, aR 51), (1, aI v1), (2, aI v2)]) hz hN dX12_findTaken_171 rfl ex25.symm (by decide) rfl ?_
  refine s_goto 113 hz dX12_findTaken_174 rfl ?_
  refine s_pick (l' := [(0, aR 51), (1, aI v1), (2, aI v2), (3, aI x25)]) [1, 2, 3, 0] rfl ?_
  exact hk113 _ _ _ rv1 rx25 hW h
def L_X12_findTaken_113 (k177 : Int → HS → zO2) (p2 : Int) : Nat → Int → Int → HS → zO2
  | 0, _, _, _ => none
  | n + 1, v1, v3, S => 
    if 192 ≤ v3 then (
      k177 v1 S)
    else (
      zg ((0 : Int) ≤ v3 ∧ v3 < 192) <|
      if S 67 v3 < 0 then (
        J_X12_findTaken_171 (L_X12_findTaken_113 k177 p2 n) v1 p2 v3 S)
      else (
        zg ((0 : Int) ≤ v3 ∧ v3 < 192) <|
        if 0 ≤ S 78 v3 then (
          J_X12_findTaken_171 (L_X12_findTaken_113 k177 p2 n) v1 p2 v3 S)
        else (
          zb (M_X12_nearestBy v3 p2 S) fun r28 S29 =>
          if r28 < 0 then (
            J_X12_findTaken_171 (L_X12_findTaken_113 k177 p2 n) v1 p2 v3 S29)
          else (
            zg ((0 : Int) ≤ v3 ∧ v3 < 192) <|
            zs (up S29 77 v3 r28) fun S32 =>
            zl ((-2) - p2) fun x33 =>
            zg ((0 : Int) ≤ v3 ∧ v3 < 192) <|
            zs (up S32 78 v3 x33) fun S35 =>
            J_X12_findTaken_171 (L_X12_findTaken_113 k177 p2 n) 1 p2 v3 S35))))
set_option maxHeartbeats 4000000 in
set_option maxRecDepth 20000 in
theorem TL_X12_findTaken_113 {k177 : Int → HS → zO2} {p2 : Int} {r : Int} {S' : HS} {z : Zt} (hz : zO z cX12_findTaken RX12 5 shF) (hN : zN z 5) (hF : zFv z shF S') (hk177 : ∀ (w1 : Int) (S : HS), rng w1 → WR shF S → k177 w1 S = some (r, S') → zA z 177 [(0, aR 51), (1, aI w1), (2, aI p2)] [] S) (rp2 : rng p2) : ∀ (n : Nat) {v1 : Int} {v3 : Int} {S : HS}, rng v1 → rng v3 → WR shF S → L_X12_findTaken_113 k177 p2 n v1 v3 S = some (r, S') → zA z 113 [(0, aR 51), (1, aI v1), (2, aI p2), (3, aI v3)] [] S := by
  intro n
  induction n with
  | zero =>
    intro _ _ _ _ _ _ h
    cases h
  | succ n ih =>
    intro v1 v3 S rv1 rv3 hW h
    rw [L_X12_findTaken_113.eq_2] at h
    refine s_iload_n 3 hz dX12_findTaken_113 rfl ?_
    refine s_sipush hz dX12_findTaken_114 sp_192 ?_
    refine s_icmp_ge 177 hz rv3 rl_192 dX12_findTaken_117 rfl (fun c22 => ?_) (fun c22 => ?_)
    · have h := zif_t c22 h
      refine s_pick (l' := [(0, aR 51), (1, aI v1), (2, aI p2)]) [0, 1, 2] rfl ?_
      exact hk177 _ _ rv1 hW h
    · have h := zif_f c22 h
      refine s_aload_n 0 hz dX12_findTaken_120 rfl ?_
      refine s_getR 28 hz fl_X12_84 sf51 rfl (by decide) dX12_findTaken_121 ?_
      refine s_iload_n 3 hz dX12_findTaken_124 rfl ?_
      obtain ⟨g23, h⟩ := zg_of h
      refine s_iald hz sf67 rfl (by decide) g23 dX12_findTaken_125 ?_
      refine s_if_lt 171 hz (hW 67 _ sf67 v3) dX12_findTaken_126 rfl (fun c24 => ?_) (fun c24 => ?_)
      · have h := zif_t c24 h
        exact TJ_X12_findTaken_171 hz hN hF (fun _ _ _ => ih) rv1 rp2 rv3 hW h
      · have h := zif_f c24 h
        refine s_aload_n 0 hz dX12_findTaken_129 rfl ?_
        refine s_getR 42 hz fl_X12_117 sf51 rfl (by decide) dX12_findTaken_130 ?_
        refine s_iload_n 3 hz dX12_findTaken_133 rfl ?_
        obtain ⟨g26, h⟩ := zg_of h
        refine s_iald hz sf78 rfl (by decide) g26 dX12_findTaken_134 ?_
        refine s_if_ge 171 hz (hW 78 _ sf78 v3) dX12_findTaken_135 rfl (fun c27 => ?_) (fun c27 => ?_)
        · have h := zif_t c27 h
          exact TJ_X12_findTaken_171 hz hN hF (fun _ _ _ => ih) rv1 rp2 rv3 hW h
        · have h := zif_f c27 h
          refine s_aload_n 0 hz dX12_findTaken_138 rfl ?_
          refine s_iload_n 3 hz dX12_findTaken_139 rfl ?_
          refine s_iload_n 2 hz dX12_findTaken_140 rfl ?_
          obtain ⟨r28, S29, hc29, h⟩ := zb_of h
          refine s_callV [aI v3, aI p2] [] hz ml_X12_348 sv_yX12_nearestBy (T_X12_nearestBy rv3 rp2 hW hc29) (by decide) rfl sf51 rfl rfl (Nat.le_of_ble_eq_true rfl) dX12_findTaken_141 (fun rr28 hW29 => ?_)
          refine s_istore (l' := [(4, aI r28), (0, aR 51), (1, aI v1), (2, aI p2), (3, aI v3)]) hz hN dX12_findTaken_144 (by decide) rfl ?_
          refine s_iload 0 hz dX12_findTaken_146 rfl ?_
          refine s_if_lt 171 hz rr28 dX12_findTaken_148 rfl (fun c30 => ?_) (fun c30 => ?_)
          · have h := zif_t c30 h
            refine s_pick (l' := [(0, aR 51), (1, aI v1), (2, aI p2), (3, aI v3)]) [1, 2, 3, 4] rfl ?_
            exact TJ_X12_findTaken_171 hz hN hF (fun _ _ _ => ih) rv1 rp2 rv3 hW29 h
          · have h := zif_f c30 h
            refine s_aload_n 1 hz dX12_findTaken_151 rfl ?_
            refine s_getR 41 hz fl_X12_114 sf51 rfl (by decide) dX12_findTaken_152 ?_
            refine s_iload_n 4 hz dX12_findTaken_155 rfl ?_
            refine s_iload 0 hz dX12_findTaken_156 rfl ?_
            obtain ⟨g31, h⟩ := zg_of h
            obtain ⟨S32, eS32, h⟩ := zs_ex h
            have hW32 : WR shF S32 := by rw [eS32]; exact hW29.up (i := v3) sf77 (v := r28) rr28
            refine s_iast hz sf77 rfl (by decide) g31 dX12_findTaken_158 ?_
            rw [← eS32]
            refine s_aload_n 1 hz dX12_findTaken_159 rfl ?_
            refine s_getR 42 hz fl_X12_117 sf51 rfl (by decide) dX12_findTaken_160 ?_
            refine s_iload_n 4 hz dX12_findTaken_163 rfl ?_
            refine s_bipush hz dX12_findTaken_164 bp_m2 ?_
            refine s_iload_n 3 hz dX12_findTaken_166 rfl ?_
            refine s_isub hz dX12_findTaken_167 ?_
            obtain ⟨x33, ex33, rx33, h⟩ := zl_ex h
            rw [← ex33]
            obtain ⟨g34, h⟩ := zg_of h
            obtain ⟨S35, eS35, h⟩ := zs_ex h
            have hW35 : WR shF S35 := by rw [eS35]; exact hW32.up (i := v3) sf78 (v := x33) rx33
            refine s_iast hz sf78 rfl (by decide) g34 dX12_findTaken_168 ?_
            rw [← eS35]
            refine s_iconst hz dX12_findTaken_169 ?_
            refine s_istore_n (l' := [(1, aI 1), (4, aI r28), (0, aR 51), (2, aI p2), (3, aI v3)]) hz hN dX12_findTaken_170 (by decide) rfl ?_
            refine s_pick (l' := [(0, aR 51), (1, aI 1), (2, aI p2), (3, aI v3)]) [2, 0, 3, 4] rfl ?_
            exact TJ_X12_findTaken_171 hz hN hF (fun _ _ _ => ih) rl_1 rp2 rv3 hW35 h
def J_X12_findTaken_213 (k179 : Int → HS → zO2) (v1 : Int) (v2 : Int) (v3 : Int) (t0 : Int) (t1 : Int) (S : HS) : zO2 :=
  zg ((0 : Int) ≤ t1 ∧ t1 < 192) <|
  zs (up S 78 t1 t0) fun S42 =>
  zl (v3 + 1) fun x43 =>
  k179 x43 S42
set_option maxHeartbeats 4000000 in
set_option maxRecDepth 20000 in
theorem TJ_X12_findTaken_213 {k179 : Int → HS → zO2} {v1 : Int} {v2 : Int} {v3 : Int} {t0 : Int} {t1 : Int} {S : HS} {r : Int} {S' : HS} {z : Zt} (hz : zO z cX12_findTaken RX12 5 shF) (hN : zN z 5) (hF : zFv z shF S') (hk179 : ∀ (w3 : Int) (S : HS), rng w3 → WR shF S → k179 w3 S = some (r, S') → zA z 179 [(0, aR 51), (1, aI v1), (2, aI v2), (3, aI w3)] [] S) (rv1 : rng v1) (rv2 : rng v2) (rv3 : rng v3) (rt0 : rng t0) (rt1 : rng t1) (hW : WR shF S) (h : J_X12_findTaken_213 k179 v1 v2 v3 t0 t1 S = some (r, S')) : zA z 213 [(0, aR 51), (1, aI v1), (2, aI v2), (3, aI v3)] [aI t0, aI t1, aR 78] S := by
  unfold J_X12_findTaken_213 at h
  obtain ⟨g41, h⟩ := zg_of h
  obtain ⟨S42, eS42, h⟩ := zs_ex h
  have hW42 : WR shF S42 := by rw [eS42]; exact hW.up (i := t1) sf78 (v := t0) rt0
  refine s_iast hz sf78 rfl (by decide) g41 dX12_findTaken_213 ?_
  rw [← eS42]
  obtain ⟨x43, ex43, rx43, h⟩ := zl_ex h
  refine s_iinc (k0 := 3) (y := x43) (l' := [(3, aI x43), (0, aR 51), (1, aI v1), (2, aI v2)]) hz hN dX12_findTaken_214 rfl ex43.symm (by decide) rfl ?_
  refine s_goto 179 hz dX12_findTaken_217 rfl ?_
  refine s_pick (l' := [(0, aR 51), (1, aI v1), (2, aI v2), (3, aI x43)]) [1, 2, 3, 0] rfl ?_
  exact hk179 _ _ rx43 hW42 h
def L_X12_findTaken_179 (k220 : HS → zO2) (p1 : Int) (p2 : Int) : Nat → Int → HS → zO2
  | 0, _, _ => none
  | n + 1, v3, S => 
    if 192 ≤ v3 then (
      k220 S)
    else (
      zg ((0 : Int) ≤ v3 ∧ v3 < 192) <|
      if (-1) ≤ S 78 v3 then (
        zg ((0 : Int) ≤ v3 ∧ v3 < 192) <|
        J_X12_findTaken_213 (L_X12_findTaken_179 k220 p1 p2 n) p1 p2 v3 (S 78 v3) v3 S)
      else (
        zl (p2 + 1) fun x44 =>
        J_X12_findTaken_213 (L_X12_findTaken_179 k220 p1 p2 n) p1 p2 v3 x44 v3 S))
set_option maxHeartbeats 4000000 in
set_option maxRecDepth 20000 in
theorem TL_X12_findTaken_179 {k220 : HS → zO2} {p1 : Int} {p2 : Int} {r : Int} {S' : HS} {z : Zt} (hz : zO z cX12_findTaken RX12 5 shF) (hN : zN z 5) (hF : zFv z shF S') (hk220 : ∀ (S : HS), WR shF S → k220 S = some (r, S') → zA z 220 [(0, aR 51), (1, aI p1), (2, aI p2)] [] S) (rp1 : rng p1) (rp2 : rng p2) : ∀ (n : Nat) {v3 : Int} {S : HS}, rng v3 → WR shF S → L_X12_findTaken_179 k220 p1 p2 n v3 S = some (r, S') → zA z 179 [(0, aR 51), (1, aI p1), (2, aI p2), (3, aI v3)] [] S := by
  intro n
  induction n with
  | zero =>
    intro _ _ _ _ h
    cases h
  | succ n ih =>
    intro v3 S rv3 hW h
    rw [L_X12_findTaken_179.eq_2] at h
    refine s_iload_n 3 hz dX12_findTaken_179 rfl ?_
    refine s_sipush hz dX12_findTaken_180 sp_192 ?_
    refine s_icmp_ge 220 hz rv3 rl_192 dX12_findTaken_183 rfl (fun c37 => ?_) (fun c37 => ?_)
    · have h := zif_t c37 h
      refine s_pick (l' := [(0, aR 51), (1, aI p1), (2, aI p2)]) [0, 1, 2] rfl ?_
      exact hk220 _ hW h
    · have h := zif_f c37 h
      refine s_aload_n 0 hz dX12_findTaken_186 rfl ?_
      refine s_getR 42 hz fl_X12_117 sf51 rfl (by decide) dX12_findTaken_187 ?_
      refine s_iload_n 3 hz dX12_findTaken_190 rfl ?_
      refine s_aload_n 0 hz dX12_findTaken_191 rfl ?_
      refine s_getR 42 hz fl_X12_117 sf51 rfl (by decide) dX12_findTaken_192 ?_
      refine s_iload_n 3 hz dX12_findTaken_195 rfl ?_
      obtain ⟨g38, h⟩ := zg_of h
      refine s_iald hz sf78 rfl (by decide) g38 dX12_findTaken_196 ?_
      refine s_iconst hz dX12_findTaken_197 ?_
      refine s_icmp_ge 207 hz (hW 78 _ sf78 v3) rl_m1 dX12_findTaken_198 rfl (fun c39 => ?_) (fun c39 => ?_)
      · have h := zif_t c39 h
        refine s_aload_n 0 hz dX12_findTaken_207 rfl ?_
        refine s_getR 42 hz fl_X12_117 sf51 rfl (by decide) dX12_findTaken_208 ?_
        refine s_iload_n 3 hz dX12_findTaken_211 rfl ?_
        obtain ⟨g40, h⟩ := zg_of h
        refine s_iald hz sf78 rfl (by decide) g40 dX12_findTaken_212 ?_
        exact TJ_X12_findTaken_213 hz hN hF (fun _ _ => ih) rp1 rp2 rv3 (hW 78 _ sf78 v3) rv3 hW h
      · have h := zif_f c39 h
        refine s_iload_n 2 hz dX12_findTaken_201 rfl ?_
        refine s_iconst hz dX12_findTaken_202 ?_
        refine s_iadd hz dX12_findTaken_203 ?_
        refine s_goto 213 hz dX12_findTaken_204 rfl ?_
        obtain ⟨x44, ex44, rx44, h⟩ := zl_ex h
        rw [← ex44]
        exact TJ_X12_findTaken_213 hz hN hF (fun _ _ => ih) rp1 rp2 rv3 rx44 rv3 hW h
def L_X12_findTaken_105 : Nat → Int → Int → HS → zO2
  | 0, _, _, _ => none
  | n + 1, v1, v2, S => 
    if v1 = 0 then (
      some (0, S))
    else (
      L_X12_findTaken_113 (fun e1 S36 =>
          L_X12_findTaken_179 (fun S45 =>
              zl (v2 + 1) fun x46 =>
              L_X12_findTaken_105 n e1 x46 S45) e1 v2 zBig 0 S36) v2 zBig 0 0 S)
set_option maxHeartbeats 4000000 in
set_option maxRecDepth 20000 in
theorem TL_X12_findTaken_105 {r : Int} {S' : HS} {z : Zt} (hz : zO z cX12_findTaken RX12 5 shF) (hN : zN z 5) (hF : zFv z shF S') : ∀ (n : Nat) {v1 : Int} {v2 : Int} {S : HS}, rng v1 → rng v2 → WR shF S → L_X12_findTaken_105 n v1 v2 S = some (r, S') → zA z 105 [(0, aR 51), (1, aI v1), (2, aI v2)] [] S := by
  intro n
  induction n with
  | zero =>
    intro _ _ _ _ _ _ h
    cases h
  | succ n ih =>
    intro v1 v2 S rv1 rv2 hW h
    rw [L_X12_findTaken_105.eq_2] at h
    refine s_iload_n 1 hz dX12_findTaken_105 rfl ?_
    refine s_if_eq 226 hz rv1 dX12_findTaken_106 rfl (fun c21 => ?_) (fun c21 => ?_)
    · have h := zif_t c21 h
      exact s_vret h hz hF hW dX12_findTaken_226
    · have h := zif_f c21 h
      refine s_iconst hz dX12_findTaken_109 ?_
      refine s_istore_n (l' := [(1, aI 0), (0, aR 51), (2, aI v2)]) hz hN dX12_findTaken_110 (by decide) rfl ?_
      refine s_iconst hz dX12_findTaken_111 ?_
      refine s_istore_n (l' := [(3, aI 0), (1, aI 0), (0, aR 51), (2, aI v2)]) hz hN dX12_findTaken_112 (by decide) rfl ?_
      refine s_pick (l' := [(0, aR 51), (1, aI 0), (2, aI v2), (3, aI 0)]) [2, 1, 3, 0] rfl ?_
      refine TL_X12_findTaken_113 hz hN hF ?_ rv2 zBig rl_0 rl_0 hW h
      · clear h 
        intro e1 S36 re1 hW36 h
        refine s_iconst hz dX12_findTaken_177 ?_
        refine s_istore_n (l' := [(3, aI 0), (0, aR 51), (1, aI e1), (2, aI v2)]) hz hN dX12_findTaken_178 (by decide) rfl ?_
        refine s_pick (l' := [(0, aR 51), (1, aI e1), (2, aI v2), (3, aI 0)]) [1, 2, 3, 0] rfl ?_
        refine TL_X12_findTaken_179 hz hN hF ?_ re1 rv2 zBig rl_0 hW36 h
        · clear h 
          intro S45 hW45 h
          obtain ⟨x46, ex46, rx46, h⟩ := zl_ex h
          refine s_iinc (k0 := 2) (y := x46) (l' := [(2, aI x46), (0, aR 51), (1, aI e1)]) hz hN dX12_findTaken_220 rfl ex46.symm (by decide) rfl ?_
          refine s_goto 105 hz dX12_findTaken_223 rfl ?_
          refine s_pick (l' := [(0, aR 51), (1, aI e1), (2, aI x46)]) [1, 2, 0] rfl ?_
          exact ih re1 rx46 hW45 h
def M_X12_findTaken (S : HS) : zO2 :=
  L_X12_findTaken_2 (fun S9 =>
      L_X12_findTaken_45 (fun S20 =>
          L_X12_findTaken_105 zBig 1 0 S20) zBig 0 S9) zBig 0 S
set_option maxHeartbeats 4000000 in
set_option maxRecDepth 20000 in
theorem T_X12_findTaken {S S' : HS} {r : Int} (hW : WR shF S) (h : M_X12_findTaken S = some (r, S')) : zV shF yX12_findTaken cX12_findTaken 5 5 [aR 51] S S' := by
  refine zV_of (by decide +kernel) (Nat.le_of_ble_eq_true rfl) (fun z hz hN hF => ?_)
  have hz : zO z cX12_findTaken RX12 5 shF := hz
  show zA z 0 [(0, aR 51)] [] S
  unfold M_X12_findTaken at h
  refine s_iconst hz dX12_findTaken_0 ?_
  refine s_istore_n (l' := [(1, aI 0), (0, aR 51)]) hz hN dX12_findTaken_1 (by decide) rfl ?_
  refine s_pick (l' := [(0, aR 51), (1, aI 0)]) [1, 0] rfl ?_
  refine TL_X12_findTaken_2 hz hN hF ?_ zBig rl_0 hW h
  · clear h 
    intro S9 hW9 h
    refine s_iconst hz dX12_findTaken_43 ?_
    refine s_istore_n (l' := [(1, aI 0), (0, aR 51)]) hz hN dX12_findTaken_44 (by decide) rfl ?_
    refine s_pick (l' := [(0, aR 51), (1, aI 0)]) [1, 0] rfl ?_
    refine TL_X12_findTaken_45 hz hN hF ?_ zBig rl_0 hW9 h
    · clear h 
      intro S20 hW20 h
      refine s_iconst hz dX12_findTaken_101 ?_
      refine s_istore_n (l' := [(1, aI 1), (0, aR 51)]) hz hN dX12_findTaken_102 (by decide) rfl ?_
      refine s_iconst hz dX12_findTaken_103 ?_
      refine s_istore_n (l' := [(2, aI 0), (1, aI 1), (0, aR 51)]) hz hN dX12_findTaken_104 (by decide) rfl ?_
      refine s_pick (l' := [(0, aR 51), (1, aI 1), (2, aI 0)]) [2, 1, 0] rfl ?_
      exact TL_X12_findTaken_105 hz hN hF zBig rl_1 rl_0 hW20 h
def M_X12_taken (a1 : Int) (a2 : Int) (S : HS) : zO2 :=
  zs (up S 51 0 0) fun S1 =>
  zb (M_X12_isScalp a1 a2 S1) fun r2 S3 =>
  if r2 = 0 then (
    some ((-1), S3))
  else (
    zb (M_X12_findTaken S3) fun _ S6 =>
    zg ((0 : Int) ≤ (16 * a2) + a1 ∧ (16 * a2) + a1 < 192) <|
    some (S6 77 ((16 * a2) + a1), S6))
set_option maxHeartbeats 4000000 in
set_option maxRecDepth 20000 in
theorem T_X12_taken {a1 : Int} {a2 : Int} {S S' : HS} {r : Int} (ra1 : rng a1) (ra2 : rng a2) (hW : WR shF S) (h : M_X12_taken a1 a2 S = some (r, S')) : zR shF yX12_taken cX12_taken 3  .int 6 [aR 51, aI a1, aI a2] S r S' := by
  refine zR_of (by decide +kernel) (Nat.le_of_ble_eq_true rfl) (fun z hz hN hF => ?_)
  have hz : zO z cX12_taken RX12 6 shF := hz
  show zA z 0 [(0, aR 51), (1, aI a1), (2, aI a2)] [] S
  unfold M_X12_taken at h
  refine s_aload_n 0 hz dX12_taken_0 rfl ?_
  refine s_iconst hz dX12_taken_1 ?_
  obtain ⟨S1, eS1, h⟩ := zs_ex h
  have hW1 : WR shF S1 := by rw [eS1]; exact hW.up (i := 0) sf51 (v := 0) rl_0
  refine s_putI (kz := 0) 0 hz fp_X12_1 sf51 rfl rfl dX12_taken_2 ?_
  rw [← eS1]
  refine s_aload_n 0 hz dX12_taken_5 rfl ?_
  refine s_iload_n 1 hz dX12_taken_6 rfl ?_
  refine s_iload_n 2 hz dX12_taken_7 rfl ?_
  obtain ⟨r2, S3, hc3, h⟩ := zb_of h
  refine s_callV [aI a1, aI a2] [] hz ml_X12_314 sv_yX12_isScalp (T_X12_isScalp ra1 ra2 hW1 hc3) (by decide) rfl sf51 rfl rfl (Nat.le_of_ble_eq_true rfl) dX12_taken_8 (fun rr2 hW3 => ?_)
  refine s_if_ne 16 hz rr2 dX12_taken_11 rfl (fun c4 => ?_) (fun c4 => ?_)
  · have h := zif_f c4 h
    refine s_aload_n 0 hz dX12_taken_16 rfl ?_
    obtain ⟨r5, S6, hc6, h⟩ := zb_of h
    refine s_callVv [] [] hz ml_X12_351 sv_yX12_findTaken (T_X12_findTaken hW3 hc6) (by decide) rfl sf51 rfl rfl (Nat.le_of_ble_eq_true rfl) dX12_taken_17 (fun hW6 => ?_)
    refine s_aload_n 0 hz dX12_taken_20 rfl ?_
    refine s_getR 41 hz fl_X12_114 sf51 rfl (by decide) dX12_taken_21 ?_
    refine s_bipush hz dX12_taken_24 bp_16 ?_
    refine s_iload_n 2 hz dX12_taken_26 rfl ?_
    refine s_imul hz dX12_taken_27 ?_
    refine s_iload_n 1 hz dX12_taken_28 rfl ?_
    refine s_iadd hz dX12_taken_29 ?_
    obtain ⟨g7, h⟩ := zg_of h
    refine s_iald hz sf77 rfl (by decide) g7 dX12_taken_30 ?_
    exact s_iret h hz hF (hW6 77 _ sf77 ((16 * a2) + a1)) hW6 dX12_taken_31
  · have h := zif_t c4 h
    refine s_iconst hz dX12_taken_14 ?_
    exact s_iret h hz hF rl_m1 hW3 dX12_taken_15
def J_X12_side_95 (t0 : Int) (S : HS) : zO2 :=
  if t0 ≤ 0 then (
    some (0, S))
  else (
    some (1, S))
set_option maxHeartbeats 4000000 in
set_option maxRecDepth 20000 in
theorem TJ_X12_side_95 {t0 : Int} {S : HS} {r : Int} {S' : HS} {z : Zt} (hz : zO z cX12_side RX12 2 shF) (hN : zN z 5) (hF : zFi z shF .int r S') (rt0 : rng t0) (hW : WR shF S) (h : J_X12_side_95 t0 S = some (r, S')) : zA z 95 [] [aI t0] S := by
  unfold J_X12_side_95 at h
  refine s_istore (l' := [(4, aI t0)]) hz hN dX12_side_95 (by decide) rfl ?_
  refine s_iload 0 hz dX12_side_97 rfl ?_
  refine s_if_le 106 hz rt0 dX12_side_99 rfl (fun c11 => ?_) (fun c11 => ?_)
  · have h := zif_t c11 h
    refine s_iconst hz dX12_side_106 ?_
    exact s_iret h hz hF rl_0 hW dX12_side_107
  · have h := zif_f c11 h
    refine s_iconst hz dX12_side_102 ?_
    refine s_goto 107 hz dX12_side_103 rfl ?_
    exact s_iret h hz hF rl_1 hW dX12_side_107
def M_X12_side (a1 : Int) (a2 : Int) (a3 : Int) (S : HS) : zO2 :=
  zs (up S 51 0 0) fun S1 =>
  zb (M_X12_isCell a1 a2 S1) fun r2 S3 =>
  if r2 = 0 then (
    some ((-1), S3))
  else (
    if a3 < 0 then (
      some ((-1), S3))
    else (
      if a3 ≤ 3 then (
        if a3 = 0 then (
          zg ((0 : Int) ≤ (16 * a2) + a1 ∧ (16 * a2) + a1 < 208) <|
          J_X12_side_95 (S3 63 ((16 * a2) + a1)) S3)
        else (
          if a3 = 1 then (
            zg ((0 : Int) ≤ (16 * (a2 + 1)) + a1 ∧ (16 * (a2 + 1)) + a1 < 208) <|
            J_X12_side_95 (S3 63 ((16 * (a2 + 1)) + a1)) S3)
          else (
            if a3 = 2 then (
              zg ((0 : Int) ≤ (17 * a2) + a1 ∧ (17 * a2) + a1 < 204) <|
              J_X12_side_95 (S3 64 ((17 * a2) + a1)) S3)
            else (
              zg ((0 : Int) ≤ ((17 * a2) + a1) + 1 ∧ ((17 * a2) + a1) + 1 < 204) <|
              J_X12_side_95 (S3 64 (((17 * a2) + a1) + 1)) S3))))
      else (
        some ((-1), S3))))
set_option maxHeartbeats 4000000 in
set_option maxRecDepth 20000 in
theorem T_X12_side {a1 : Int} {a2 : Int} {a3 : Int} {S S' : HS} {r : Int} (ra1 : rng a1) (ra2 : rng a2) (ra3 : rng a3) (hW : WR shF S) (h : M_X12_side a1 a2 a3 S = some (r, S')) : zR shF yX12_side cX12_side 5  .int 2 [aR 51, aI a1, aI a2, aI a3] S r S' := by
  refine zR_of (by decide +kernel) (Nat.le_of_ble_eq_true rfl) (fun z hz hN hF => ?_)
  have hz : zO z cX12_side RX12 2 shF := hz
  show zA z 0 [(0, aR 51), (1, aI a1), (2, aI a2), (3, aI a3)] [] S
  unfold M_X12_side at h
  refine s_aload_n 0 hz dX12_side_0 rfl ?_
  refine s_iconst hz dX12_side_1 ?_
  obtain ⟨S1, eS1, h⟩ := zs_ex h
  have hW1 : WR shF S1 := by rw [eS1]; exact hW.up (i := 0) sf51 (v := 0) rl_0
  refine s_putI (kz := 0) 0 hz fp_X12_1 sf51 rfl rfl dX12_side_2 ?_
  rw [← eS1]
  refine s_iload_n 1 hz dX12_side_5 rfl ?_
  refine s_iload_n 2 hz dX12_side_6 rfl ?_
  obtain ⟨r2, S3, hc3, h⟩ := zb_of h
  refine s_callS [aI a1, aI a2] [] hz ml_X12_311 ss_yX12_isCell (T_X12_isCell ra1 ra2 hW1 hc3) (by decide) rfl rfl (Nat.le_of_ble_eq_true rfl) dX12_side_7 (fun rr2 hW3 => ?_)
  refine s_if_eq 22 hz rr2 dX12_side_10 rfl (fun c4 => ?_) (fun c4 => ?_)
  · have h := zif_t c4 h
    refine s_iconst hz dX12_side_22 ?_
    exact s_iret h hz hF rl_m1 hW3 dX12_side_23
  · have h := zif_f c4 h
    refine s_iload_n 3 hz dX12_side_13 rfl ?_
    refine s_if_lt 22 hz ra3 dX12_side_14 rfl (fun c5 => ?_) (fun c5 => ?_)
    · have h := zif_t c5 h
      refine s_iconst hz dX12_side_22 ?_
      exact s_iret h hz hF rl_m1 hW3 dX12_side_23
    · have h := zif_f c5 h
      refine s_iload_n 3 hz dX12_side_17 rfl ?_
      refine s_iconst hz dX12_side_18 ?_
      refine s_icmp_le 24 hz ra3 rl_3 dX12_side_19 rfl (fun c6 => ?_) (fun c6 => ?_)
      · have h := zif_t c6 h
        refine s_iload_n 3 hz dX12_side_24 rfl ?_
        refine s_if_ne 42 hz ra3 dX12_side_25 rfl (fun c7 => ?_) (fun c7 => ?_)
        · have h := zif_f c7 h
          refine s_iload_n 3 hz dX12_side_42 rfl ?_
          refine s_iconst hz dX12_side_43 ?_
          refine s_icmp_ne 63 hz ra3 rl_1 dX12_side_44 rfl (fun c8 => ?_) (fun c8 => ?_)
          · have h := zif_f c8 h
            refine s_iload_n 3 hz dX12_side_63 rfl ?_
            refine s_iconst hz dX12_side_64 ?_
            refine s_icmp_ne 82 hz ra3 rl_2 dX12_side_65 rfl (fun c9 => ?_) (fun c9 => ?_)
            · have h := zif_f c9 h
              refine s_aload_n 0 hz dX12_side_82 rfl ?_
              refine s_getR 24 hz fl_X12_74 sf51 rfl (by decide) dX12_side_83 ?_
              refine s_bipush hz dX12_side_86 bp_17 ?_
              refine s_iload_n 2 hz dX12_side_88 rfl ?_
              refine s_imul hz dX12_side_89 ?_
              refine s_iload_n 1 hz dX12_side_90 rfl ?_
              refine s_iadd hz dX12_side_91 ?_
              refine s_iconst hz dX12_side_92 ?_
              refine s_iadd hz dX12_side_93 ?_
              obtain ⟨g10, h⟩ := zg_of h
              refine s_iald hz sf64 rfl (by decide) g10 dX12_side_94 ?_
              refine s_pick (l' := []) [] rfl ?_
              exact TJ_X12_side_95 hz hN hF (hW3 64 _ sf64 (((17 * a2) + a1) + 1)) hW3 h
            · have h := zif_t c9 h
              refine s_aload_n 0 hz dX12_side_68 rfl ?_
              refine s_getR 24 hz fl_X12_74 sf51 rfl (by decide) dX12_side_69 ?_
              refine s_bipush hz dX12_side_72 bp_17 ?_
              refine s_iload_n 2 hz dX12_side_74 rfl ?_
              refine s_imul hz dX12_side_75 ?_
              refine s_iload_n 1 hz dX12_side_76 rfl ?_
              refine s_iadd hz dX12_side_77 ?_
              obtain ⟨g12, h⟩ := zg_of h
              refine s_iald hz sf64 rfl (by decide) g12 dX12_side_78 ?_
              refine s_goto 95 hz dX12_side_79 rfl ?_
              refine s_pick (l' := []) [] rfl ?_
              exact TJ_X12_side_95 hz hN hF (hW3 64 _ sf64 ((17 * a2) + a1)) hW3 h
          · have h := zif_t c8 h
            refine s_aload_n 0 hz dX12_side_47 rfl ?_
            refine s_getR 23 hz fl_X12_71 sf51 rfl (by decide) dX12_side_48 ?_
            refine s_bipush hz dX12_side_51 bp_16 ?_
            refine s_iload_n 2 hz dX12_side_53 rfl ?_
            refine s_iconst hz dX12_side_54 ?_
            refine s_iadd hz dX12_side_55 ?_
            refine s_imul hz dX12_side_56 ?_
            refine s_iload_n 1 hz dX12_side_57 rfl ?_
            refine s_iadd hz dX12_side_58 ?_
            obtain ⟨g13, h⟩ := zg_of h
            refine s_iald hz sf63 rfl (by decide) g13 dX12_side_59 ?_
            refine s_goto 95 hz dX12_side_60 rfl ?_
            refine s_pick (l' := []) [] rfl ?_
            exact TJ_X12_side_95 hz hN hF (hW3 63 _ sf63 ((16 * (a2 + 1)) + a1)) hW3 h
        · have h := zif_t c7 h
          refine s_aload_n 0 hz dX12_side_28 rfl ?_
          refine s_getR 23 hz fl_X12_71 sf51 rfl (by decide) dX12_side_29 ?_
          refine s_bipush hz dX12_side_32 bp_16 ?_
          refine s_iload_n 2 hz dX12_side_34 rfl ?_
          refine s_imul hz dX12_side_35 ?_
          refine s_iload_n 1 hz dX12_side_36 rfl ?_
          refine s_iadd hz dX12_side_37 ?_
          obtain ⟨g14, h⟩ := zg_of h
          refine s_iald hz sf63 rfl (by decide) g14 dX12_side_38 ?_
          refine s_goto 95 hz dX12_side_39 rfl ?_
          refine s_pick (l' := []) [] rfl ?_
          exact TJ_X12_side_95 hz hN hF (hW3 63 _ sf63 ((16 * a2) + a1)) hW3 h
      · have h := zif_f c6 h
        refine s_iconst hz dX12_side_22 ?_
        exact s_iret h hz hF rl_m1 hW3 dX12_side_23
def M_X12_isStepOf (a1 : Int) (a2 : Int) (S : HS) : zO2 :=
  if a1 < 0 then (
    some (0, S))
  else (
    if S 51 27 ≤ a1 then (
      some (0, S))
    else (
      if a2 < 0 then (
        some (0, S))
      else (
        zg ((0 : Int) ≤ a1 ∧ a1 < 24) <|
        if S 69 a1 ≤ a2 then (
          some (0, S))
        else (
          some (1, S)))))
set_option maxHeartbeats 4000000 in
set_option maxRecDepth 20000 in
theorem T_X12_isStepOf {a1 : Int} {a2 : Int} {S S' : HS} {r : Int} (ra1 : rng a1) (ra2 : rng a2) (hW : WR shF S) (h : M_X12_isStepOf a1 a2 S = some (r, S')) : zR shF yX12_isStepOf cX12_isStepOf 3  .boolean 1 [aR 51, aI a1, aI a2] S r S' := by
  refine zR_of (by decide +kernel) (Nat.le_of_ble_eq_true rfl) (fun z hz hN hF => ?_)
  have hz : zO z cX12_isStepOf RX12 1 shF := hz
  show zA z 0 [(0, aR 51), (1, aI a1), (2, aI a2)] [] S
  unfold M_X12_isStepOf at h
  refine s_iload_n 1 hz dX12_isStepOf_0 rfl ?_
  refine s_if_lt 30 hz ra1 dX12_isStepOf_1 rfl (fun c1 => ?_) (fun c1 => ?_)
  · have h := zif_t c1 h
    refine s_iconst hz dX12_isStepOf_30 ?_
    exact s_zret h hz hF (by decide) hW dX12_isStepOf_31
  · have h := zif_f c1 h
    refine s_iload_n 1 hz dX12_isStepOf_4 rfl ?_
    refine s_aload_n 0 hz dX12_isStepOf_5 rfl ?_
    refine s_getI (kz := 27) 27 hz fl_X12_256 sf51 rfl rfl dX12_isStepOf_6 ?_
    refine s_icmp_ge 30 hz ra1 (hW 51 _ sf51 27) dX12_isStepOf_9 rfl (fun c2 => ?_) (fun c2 => ?_)
    · have h := zif_t c2 h
      refine s_iconst hz dX12_isStepOf_30 ?_
      exact s_zret h hz hF (by decide) hW dX12_isStepOf_31
    · have h := zif_f c2 h
      refine s_iload_n 2 hz dX12_isStepOf_12 rfl ?_
      refine s_if_lt 30 hz ra2 dX12_isStepOf_13 rfl (fun c3 => ?_) (fun c3 => ?_)
      · have h := zif_t c3 h
        refine s_iconst hz dX12_isStepOf_30 ?_
        exact s_zret h hz hF (by decide) hW dX12_isStepOf_31
      · have h := zif_f c3 h
        refine s_iload_n 2 hz dX12_isStepOf_16 rfl ?_
        refine s_aload_n 0 hz dX12_isStepOf_17 rfl ?_
        refine s_getR 30 hz fl_X12_90 sf51 rfl (by decide) dX12_isStepOf_18 ?_
        refine s_iload_n 1 hz dX12_isStepOf_21 rfl ?_
        obtain ⟨g4, h⟩ := zg_of h
        refine s_iald hz sf69 rfl (by decide) g4 dX12_isStepOf_22 ?_
        refine s_icmp_ge 30 hz ra2 (hW 69 _ sf69 a1) dX12_isStepOf_23 rfl (fun c5 => ?_) (fun c5 => ?_)
        · have h := zif_t c5 h
          refine s_iconst hz dX12_isStepOf_30 ?_
          exact s_zret h hz hF (by decide) hW dX12_isStepOf_31
        · have h := zif_f c5 h
          refine s_iconst hz dX12_isStepOf_26 ?_
          refine s_goto 31 hz dX12_isStepOf_27 rfl ?_
          exact s_zret h hz hF (by decide) hW dX12_isStepOf_31
def M_X12_row (a1 : Int) (a2 : Int) (S : HS) : zO2 :=
  zs (up S 51 0 0) fun S1 =>
  zb (M_X12_isStepOf a1 a2 S1) fun r2 S3 =>
  if r2 = 0 then (
    some ((-1), S3))
  else (
    zg ((0 : Int) ≤ (192 * a1) + a2 ∧ (192 * a1) + a2 < 4608) <|
    some (S3 70 ((192 * a1) + a2), S3))
set_option maxHeartbeats 4000000 in
set_option maxRecDepth 20000 in
theorem T_X12_row {a1 : Int} {a2 : Int} {S S' : HS} {r : Int} (ra1 : rng a1) (ra2 : rng a2) (hW : WR shF S) (h : M_X12_row a1 a2 S = some (r, S')) : zR shF yX12_row cX12_row 3  .int 2 [aR 51, aI a1, aI a2] S r S' := by
  refine zR_of (by decide +kernel) (Nat.le_of_ble_eq_true rfl) (fun z hz hN hF => ?_)
  have hz : zO z cX12_row RX12 2 shF := hz
  show zA z 0 [(0, aR 51), (1, aI a1), (2, aI a2)] [] S
  unfold M_X12_row at h
  refine s_aload_n 0 hz dX12_row_0 rfl ?_
  refine s_iconst hz dX12_row_1 ?_
  obtain ⟨S1, eS1, h⟩ := zs_ex h
  have hW1 : WR shF S1 := by rw [eS1]; exact hW.up (i := 0) sf51 (v := 0) rl_0
  refine s_putI (kz := 0) 0 hz fp_X12_1 sf51 rfl rfl dX12_row_2 ?_
  rw [← eS1]
  refine s_aload_n 0 hz dX12_row_5 rfl ?_
  refine s_iload_n 1 hz dX12_row_6 rfl ?_
  refine s_iload_n 2 hz dX12_row_7 rfl ?_
  obtain ⟨r2, S3, hc3, h⟩ := zb_of h
  refine s_callV [aI a1, aI a2] [] hz ml_X12_354 sv_yX12_isStepOf (T_X12_isStepOf ra1 ra2 hW1 hc3) (by decide) rfl sf51 rfl rfl (Nat.le_of_ble_eq_true rfl) dX12_row_8 (fun rr2 hW3 => ?_)
  refine s_if_eq 29 hz rr2 dX12_row_11 rfl (fun c4 => ?_) (fun c4 => ?_)
  · have h := zif_t c4 h
    refine s_iconst hz dX12_row_29 ?_
    exact s_iret h hz hF rl_m1 hW3 dX12_row_30
  · have h := zif_f c4 h
    refine s_aload_n 0 hz dX12_row_14 rfl ?_
    refine s_getR 31 hz fl_X12_93 sf51 rfl (by decide) dX12_row_15 ?_
    refine s_sipush hz dX12_row_18 sp_192 ?_
    refine s_iload_n 1 hz dX12_row_21 rfl ?_
    refine s_imul hz dX12_row_22 ?_
    refine s_iload_n 2 hz dX12_row_23 rfl ?_
    refine s_iadd hz dX12_row_24 ?_
    obtain ⟨g5, h⟩ := zg_of h
    refine s_iald hz sf70 rfl (by decide) g5 dX12_row_25 ?_
    refine s_goto 30 hz dX12_row_26 rfl ?_
    exact s_iret h hz hF (hW3 70 _ sf70 ((192 * a1) + a2)) hW3 dX12_row_30
def M_X12_added (a1 : Int) (a2 : Int) (a3 : Int) (a4 : Int) (S : HS) : zO2 :=
  zs (up S 51 0 0) fun S1 =>
  zb (M_X12_isStepOf a1 a2 S1) fun r2 S3 =>
  if r2 = 0 then (
    some ((-1), S3))
  else (
    if a3 < 1 then (
      some ((-1), S3))
    else (
      if 99 < a3 then (
        some ((-1), S3))
      else (
        if a4 < 20 then (
          some ((-1), S3))
        else (
          if 2000 < a4 then (
            some ((-1), S3))
          else (
            if S3 51 43 = 60 then (
              some ((-1), S3))
            else (
              zg ((0 : Int) ≤ S3 51 43 ∧ S3 51 43 < 60) <|
              zs (up S3 79 (S3 51 43) a1) fun S11 =>
              zg ((0 : Int) ≤ S11 51 43 ∧ S11 51 43 < 60) <|
              zs (up S11 80 (S11 51 43) a2) fun S13 =>
              zg ((0 : Int) ≤ S13 51 43 ∧ S13 51 43 < 60) <|
              zs (up S13 81 (S13 51 43) a3) fun S15 =>
              zg ((0 : Int) ≤ S15 51 43 ∧ S15 51 43 < 60) <|
              zs (up S15 82 (S15 51 43) a4) fun S17 =>
              zl ((S17 51 43) + 1) fun x18 =>
              zs (up S17 51 43 x18) fun S19 =>
              some (S19 51 43, S19)))))))
set_option maxHeartbeats 4000000 in
set_option maxRecDepth 20000 in
theorem T_X12_added {a1 : Int} {a2 : Int} {a3 : Int} {a4 : Int} {S S' : HS} {r : Int} (ra1 : rng a1) (ra2 : rng a2) (ra3 : rng a3) (ra4 : rng a4) (hW : WR shF S) (h : M_X12_added a1 a2 a3 a4 S = some (r, S')) : zR shF yX12_added cX12_added 5  .int 2 [aR 51, aI a1, aI a2, aI a3, aI a4] S r S' := by
  refine zR_of (by decide +kernel) (Nat.le_of_ble_eq_true rfl) (fun z hz hN hF => ?_)
  have hz : zO z cX12_added RX12 2 shF := hz
  show zA z 0 [(0, aR 51), (1, aI a1), (2, aI a2), (3, aI a3), (4, aI a4)] [] S
  unfold M_X12_added at h
  refine s_aload_n 0 hz dX12_added_0 rfl ?_
  refine s_iconst hz dX12_added_1 ?_
  obtain ⟨S1, eS1, h⟩ := zs_ex h
  have hW1 : WR shF S1 := by rw [eS1]; exact hW.up (i := 0) sf51 (v := 0) rl_0
  refine s_putI (kz := 0) 0 hz fp_X12_1 sf51 rfl rfl dX12_added_2 ?_
  rw [← eS1]
  refine s_aload_n 0 hz dX12_added_5 rfl ?_
  refine s_iload_n 1 hz dX12_added_6 rfl ?_
  refine s_iload_n 2 hz dX12_added_7 rfl ?_
  obtain ⟨r2, S3, hc3, h⟩ := zb_of h
  refine s_callV [aI a1, aI a2] [] hz ml_X12_354 sv_yX12_isStepOf (T_X12_isStepOf ra1 ra2 hW1 hc3) (by decide) rfl sf51 rfl rfl (Nat.le_of_ble_eq_true rfl) dX12_added_8 (fun rr2 hW3 => ?_)
  refine s_if_eq 49 hz rr2 dX12_added_11 rfl (fun c4 => ?_) (fun c4 => ?_)
  · have h := zif_t c4 h
    refine s_iconst hz dX12_added_49 ?_
    exact s_iret h hz hF rl_m1 hW3 dX12_added_50
  · have h := zif_f c4 h
    refine s_iload_n 3 hz dX12_added_14 rfl ?_
    refine s_iconst hz dX12_added_15 ?_
    refine s_icmp_lt 49 hz ra3 rl_1 dX12_added_16 rfl (fun c5 => ?_) (fun c5 => ?_)
    · have h := zif_t c5 h
      refine s_iconst hz dX12_added_49 ?_
      exact s_iret h hz hF rl_m1 hW3 dX12_added_50
    · have h := zif_f c5 h
      refine s_iload_n 3 hz dX12_added_19 rfl ?_
      refine s_bipush hz dX12_added_20 bp_99 ?_
      refine s_icmp_gt 49 hz ra3 rl_99 dX12_added_22 rfl (fun c6 => ?_) (fun c6 => ?_)
      · have h := zif_t c6 h
        refine s_iconst hz dX12_added_49 ?_
        exact s_iret h hz hF rl_m1 hW3 dX12_added_50
      · have h := zif_f c6 h
        refine s_iload 4 hz dX12_added_25 rfl ?_
        refine s_bipush hz dX12_added_27 bp_20 ?_
        refine s_icmp_lt 49 hz ra4 rl_20 dX12_added_29 rfl (fun c7 => ?_) (fun c7 => ?_)
        · have h := zif_t c7 h
          refine s_iconst hz dX12_added_49 ?_
          exact s_iret h hz hF rl_m1 hW3 dX12_added_50
        · have h := zif_f c7 h
          refine s_iload 4 hz dX12_added_32 rfl ?_
          refine s_sipush hz dX12_added_34 sp_2000 ?_
          refine s_icmp_gt 49 hz ra4 rl_2000 dX12_added_37 rfl (fun c8 => ?_) (fun c8 => ?_)
          · have h := zif_t c8 h
            refine s_iconst hz dX12_added_49 ?_
            exact s_iret h hz hF rl_m1 hW3 dX12_added_50
          · have h := zif_f c8 h
            refine s_aload_n 0 hz dX12_added_40 rfl ?_
            refine s_getI (kz := 43) 43 hz fl_X12_357 sf51 rfl rfl dX12_added_41 ?_
            refine s_bipush hz dX12_added_44 bp_60 ?_
            refine s_icmp_ne 51 hz (hW3 51 _ sf51 43) rl_60 dX12_added_46 rfl (fun c9 => ?_) (fun c9 => ?_)
            · have h := zif_f c9 h
              refine s_aload_n 0 hz dX12_added_51 rfl ?_
              refine s_getR 44 hz fl_X12_120 sf51 rfl (by decide) dX12_added_52 ?_
              refine s_aload_n 0 hz dX12_added_55 rfl ?_
              refine s_getI (kz := 43) 43 hz fl_X12_357 sf51 rfl rfl dX12_added_56 ?_
              refine s_iload_n 1 hz dX12_added_59 rfl ?_
              obtain ⟨g10, h⟩ := zg_of h
              obtain ⟨S11, eS11, h⟩ := zs_ex h
              have hW11 : WR shF S11 := by rw [eS11]; exact hW3.up (i := (S3 51 43)) sf79 (v := a1) ra1
              refine s_iast hz sf79 rfl (by decide) g10 dX12_added_60 ?_
              rw [← eS11]
              refine s_aload_n 0 hz dX12_added_61 rfl ?_
              refine s_getR 45 hz fl_X12_123 sf51 rfl (by decide) dX12_added_62 ?_
              refine s_aload_n 0 hz dX12_added_65 rfl ?_
              refine s_getI (kz := 43) 43 hz fl_X12_357 sf51 rfl rfl dX12_added_66 ?_
              refine s_iload_n 2 hz dX12_added_69 rfl ?_
              obtain ⟨g12, h⟩ := zg_of h
              obtain ⟨S13, eS13, h⟩ := zs_ex h
              have hW13 : WR shF S13 := by rw [eS13]; exact hW11.up (i := (S11 51 43)) sf80 (v := a2) ra2
              refine s_iast hz sf80 rfl (by decide) g12 dX12_added_70 ?_
              rw [← eS13]
              refine s_aload_n 0 hz dX12_added_71 rfl ?_
              refine s_getR 46 hz fl_X12_126 sf51 rfl (by decide) dX12_added_72 ?_
              refine s_aload_n 0 hz dX12_added_75 rfl ?_
              refine s_getI (kz := 43) 43 hz fl_X12_357 sf51 rfl rfl dX12_added_76 ?_
              refine s_iload_n 3 hz dX12_added_79 rfl ?_
              obtain ⟨g14, h⟩ := zg_of h
              obtain ⟨S15, eS15, h⟩ := zs_ex h
              have hW15 : WR shF S15 := by rw [eS15]; exact hW13.up (i := (S13 51 43)) sf81 (v := a3) ra3
              refine s_iast hz sf81 rfl (by decide) g14 dX12_added_80 ?_
              rw [← eS15]
              refine s_aload_n 0 hz dX12_added_81 rfl ?_
              refine s_getR 47 hz fl_X12_129 sf51 rfl (by decide) dX12_added_82 ?_
              refine s_aload_n 0 hz dX12_added_85 rfl ?_
              refine s_getI (kz := 43) 43 hz fl_X12_357 sf51 rfl rfl dX12_added_86 ?_
              refine s_iload 4 hz dX12_added_89 rfl ?_
              obtain ⟨g16, h⟩ := zg_of h
              obtain ⟨S17, eS17, h⟩ := zs_ex h
              have hW17 : WR shF S17 := by rw [eS17]; exact hW15.up (i := (S15 51 43)) sf82 (v := a4) ra4
              refine s_iast hz sf82 rfl (by decide) g16 dX12_added_91 ?_
              rw [← eS17]
              refine s_aload_n 0 hz dX12_added_92 rfl ?_
              refine s_dup hz rfl dX12_added_93 ?_
              refine s_getI (kz := 43) 43 hz fl_X12_357 sf51 rfl rfl dX12_added_94 ?_
              refine s_iconst hz dX12_added_97 ?_
              refine s_iadd hz dX12_added_98 ?_
              obtain ⟨x18, ex18, rx18, h⟩ := zl_ex h
              rw [← ex18]
              obtain ⟨S19, eS19, h⟩ := zs_ex h
              have hW19 : WR shF S19 := by rw [eS19]; exact hW17.up (i := 43) sf51 (v := x18) rx18
              refine s_putI (kz := 43) 43 hz fp_X12_357 sf51 rfl rfl dX12_added_99 ?_
              rw [← eS19]
              refine s_aload_n 0 hz dX12_added_102 rfl ?_
              refine s_getI (kz := 43) 43 hz fl_X12_357 sf51 rfl rfl dX12_added_103 ?_
              exact s_iret h hz hF (hW19 51 _ sf51 43) hW19 dX12_added_106
            · have h := zif_t c9 h
              refine s_iconst hz dX12_added_49 ?_
              exact s_iret h hz hF rl_m1 hW3 dX12_added_50
def L_X12_findTotals_6 (k29 : HS → zO2) (p1 : Int) : Nat → Int → HS → zO2
  | 0, _, _ => none
  | n + 1, v2, S => 
    zg ((0 : Int) ≤ p1 ∧ p1 < 24) <|
    if S 69 p1 ≤ v2 then (
      k29 S)
    else (
      zg ((0 : Int) ≤ v2 ∧ v2 < 192) <|
      zs (up S 83 v2 0) fun S6 =>
      zl (v2 + 1) fun x7 =>
      L_X12_findTotals_6 k29 p1 n x7 S6)
set_option maxHeartbeats 4000000 in
set_option maxRecDepth 20000 in
theorem TL_X12_findTotals_6 {k29 : HS → zO2} {p1 : Int} {r : Int} {S' : HS} {z : Zt} (hz : zO z cX12_findTotals RX12 6 shF) (hN : zN z 3) (hF : zFv z shF S') (hk29 : ∀ (S : HS), WR shF S → k29 S = some (r, S') → zA z 29 [(0, aR 51), (1, aI p1)] [] S) (rp1 : rng p1) : ∀ (n : Nat) {v2 : Int} {S : HS}, rng v2 → WR shF S → L_X12_findTotals_6 k29 p1 n v2 S = some (r, S') → zA z 6 [(0, aR 51), (1, aI p1), (2, aI v2)] [] S := by
  intro n
  induction n with
  | zero =>
    intro _ _ _ _ h
    cases h
  | succ n ih =>
    intro v2 S rv2 hW h
    rw [L_X12_findTotals_6.eq_2] at h
    refine s_iload_n 2 hz dX12_findTotals_6 rfl ?_
    refine s_aload_n 0 hz dX12_findTotals_7 rfl ?_
    refine s_getR 30 hz fl_X12_90 sf51 rfl (by decide) dX12_findTotals_8 ?_
    refine s_iload_n 1 hz dX12_findTotals_11 rfl ?_
    obtain ⟨g3, h⟩ := zg_of h
    refine s_iald hz sf69 rfl (by decide) g3 dX12_findTotals_12 ?_
    refine s_icmp_ge 29 hz rv2 (hW 69 _ sf69 p1) dX12_findTotals_13 rfl (fun c4 => ?_) (fun c4 => ?_)
    · have h := zif_t c4 h
      refine s_pick (l' := [(0, aR 51), (1, aI p1)]) [0, 1] rfl ?_
      exact hk29 _ hW h
    · have h := zif_f c4 h
      refine s_aload_n 0 hz dX12_findTotals_16 rfl ?_
      refine s_getR 48 hz fl_X12_132 sf51 rfl (by decide) dX12_findTotals_17 ?_
      refine s_iload_n 2 hz dX12_findTotals_20 rfl ?_
      refine s_iconst hz dX12_findTotals_21 ?_
      obtain ⟨g5, h⟩ := zg_of h
      obtain ⟨S6, eS6, h⟩ := zs_ex h
      have hW6 : WR shF S6 := by rw [eS6]; exact hW.up (i := v2) sf83 (v := 0) rl_0
      refine s_iast hz sf83 rfl (by decide) g5 dX12_findTotals_22 ?_
      rw [← eS6]
      obtain ⟨x7, ex7, rx7, h⟩ := zl_ex h
      refine s_iinc (k0 := 2) (y := x7) (l' := [(2, aI x7), (0, aR 51), (1, aI p1)]) hz hN dX12_findTotals_23 rfl ex7.symm (by decide) rfl ?_
      refine s_goto 6 hz dX12_findTotals_26 rfl ?_
      refine s_pick (l' := [(0, aR 51), (1, aI p1), (2, aI x7)]) [1, 2, 0] rfl ?_
      exact ih rx7 hW6 h
def J_X12_findTotals_94 (k31 : Int → HS → zO2) (v1 : Int) (v2 : Int) (S : HS) : zO2 :=
  zl (v2 + 1) fun x12 =>
  k31 x12 S
set_option maxHeartbeats 4000000 in
set_option maxRecDepth 20000 in
theorem TJ_X12_findTotals_94 {k31 : Int → HS → zO2} {v1 : Int} {v2 : Int} {S : HS} {r : Int} {S' : HS} {z : Zt} (hz : zO z cX12_findTotals RX12 6 shF) (hN : zN z 3) (hF : zFv z shF S') (hk31 : ∀ (w2 : Int) (S : HS), rng w2 → WR shF S → k31 w2 S = some (r, S') → zA z 31 [(0, aR 51), (1, aI v1), (2, aI w2)] [] S) (rv1 : rng v1) (rv2 : rng v2) (hW : WR shF S) (h : J_X12_findTotals_94 k31 v1 v2 S = some (r, S')) : zA z 94 [(0, aR 51), (1, aI v1), (2, aI v2)] [] S := by
  unfold J_X12_findTotals_94 at h
  obtain ⟨x12, ex12, rx12, h⟩ := zl_ex h
  refine s_iinc (k0 := 2) (y := x12) (l' := [(2, aI x12), (0, aR 51), (1, aI v1)]) hz hN dX12_findTotals_94 rfl ex12.symm (by decide) rfl ?_
  refine s_goto 31 hz dX12_findTotals_97 rfl ?_
  refine s_pick (l' := [(0, aR 51), (1, aI v1), (2, aI x12)]) [1, 2, 0] rfl ?_
  exact hk31 _ _ rx12 hW h
def L_X12_findTotals_31 (p1 : Int) : Nat → Int → HS → zO2
  | 0, _, _ => none
  | n + 1, v2, S => 
    if 192 ≤ v2 then (
      some (0, S))
    else (
      zg ((0 : Int) ≤ v2 ∧ v2 < 192) <|
      if S 67 v2 < 0 then (
        J_X12_findTotals_94 (L_X12_findTotals_31 p1 n) p1 v2 S)
      else (
        zg ((0 : Int) ≤ v2 ∧ v2 < 192) <|
        if S 77 v2 < 0 then (
          J_X12_findTotals_94 (L_X12_findTotals_31 p1 n) p1 v2 S)
        else (
          zg ((0 : Int) ≤ v2 ∧ v2 < 192) <|
          zg ((0 : Int) ≤ S 77 v2 ∧ (0 : Int) < 200) <|
          zl ((S 77 v2) / 200) fun x17 =>
          if x17 = p1 then (
            zg ((0 : Int) ≤ v2 ∧ v2 < 192) <|
            zg ((0 : Int) ≤ S 77 v2 ∧ (0 : Int) < 200) <|
            zg ((0 : Int) ≤ (S 77 v2) % 200 ∧ (S 77 v2) % 200 < 192) <|
            zg ((0 : Int) ≤ v2 ∧ v2 < 192) <|
            zl ((S 83 ((S 77 v2) % 200)) + (S 67 v2)) fun x23 =>
            zg ((0 : Int) ≤ (S 77 v2) % 200 ∧ (S 77 v2) % 200 < 192) <|
            zs (up S 83 ((S 77 v2) % 200) x23) fun S25 =>
            J_X12_findTotals_94 (L_X12_findTotals_31 p1 n) p1 v2 S25)
          else (
            J_X12_findTotals_94 (L_X12_findTotals_31 p1 n) p1 v2 S))))
set_option maxHeartbeats 4000000 in
set_option maxRecDepth 20000 in
theorem TL_X12_findTotals_31 {p1 : Int} {r : Int} {S' : HS} {z : Zt} (hz : zO z cX12_findTotals RX12 6 shF) (hN : zN z 3) (hF : zFv z shF S') (rp1 : rng p1) : ∀ (n : Nat) {v2 : Int} {S : HS}, rng v2 → WR shF S → L_X12_findTotals_31 p1 n v2 S = some (r, S') → zA z 31 [(0, aR 51), (1, aI p1), (2, aI v2)] [] S := by
  intro n
  induction n with
  | zero =>
    intro _ _ _ _ h
    cases h
  | succ n ih =>
    intro v2 S rv2 hW h
    rw [L_X12_findTotals_31.eq_2] at h
    refine s_iload_n 2 hz dX12_findTotals_31 rfl ?_
    refine s_sipush hz dX12_findTotals_32 sp_192 ?_
    refine s_icmp_ge 100 hz rv2 rl_192 dX12_findTotals_35 rfl (fun c9 => ?_) (fun c9 => ?_)
    · have h := zif_t c9 h
      exact s_vret h hz hF hW dX12_findTotals_100
    · have h := zif_f c9 h
      refine s_aload_n 0 hz dX12_findTotals_38 rfl ?_
      refine s_getR 28 hz fl_X12_84 sf51 rfl (by decide) dX12_findTotals_39 ?_
      refine s_iload_n 2 hz dX12_findTotals_42 rfl ?_
      obtain ⟨g10, h⟩ := zg_of h
      refine s_iald hz sf67 rfl (by decide) g10 dX12_findTotals_43 ?_
      refine s_if_lt 94 hz (hW 67 _ sf67 v2) dX12_findTotals_44 rfl (fun c11 => ?_) (fun c11 => ?_)
      · have h := zif_t c11 h
        exact TJ_X12_findTotals_94 hz hN hF (fun _ _ => ih) rp1 rv2 hW h
      · have h := zif_f c11 h
        refine s_aload_n 0 hz dX12_findTotals_47 rfl ?_
        refine s_getR 41 hz fl_X12_114 sf51 rfl (by decide) dX12_findTotals_48 ?_
        refine s_iload_n 2 hz dX12_findTotals_51 rfl ?_
        obtain ⟨g13, h⟩ := zg_of h
        refine s_iald hz sf77 rfl (by decide) g13 dX12_findTotals_52 ?_
        refine s_if_lt 94 hz (hW 77 _ sf77 v2) dX12_findTotals_53 rfl (fun c14 => ?_) (fun c14 => ?_)
        · have h := zif_t c14 h
          exact TJ_X12_findTotals_94 hz hN hF (fun _ _ => ih) rp1 rv2 hW h
        · have h := zif_f c14 h
          refine s_aload_n 0 hz dX12_findTotals_56 rfl ?_
          refine s_getR 41 hz fl_X12_114 sf51 rfl (by decide) dX12_findTotals_57 ?_
          refine s_iload_n 2 hz dX12_findTotals_60 rfl ?_
          obtain ⟨g15, h⟩ := zg_of h
          refine s_iald hz sf77 rfl (by decide) g15 dX12_findTotals_61 ?_
          refine s_sipush hz dX12_findTotals_62 sp_200 ?_
          obtain ⟨g16, h⟩ := zg_of h
          refine s_idiv hz g16.1 g16.2 (hW 77 _ sf77 v2) rl_200 dX12_findTotals_65 ?_
          refine s_iload_n 1 hz dX12_findTotals_66 rfl ?_
          obtain ⟨x17, ex17, rx17, h⟩ := zl_ex h
          rw [← ex17]
          refine s_icmp_ne 94 hz rx17 rp1 dX12_findTotals_67 rfl (fun c18 => ?_) (fun c18 => ?_)
          · have h := zif_f c18 h
            exact TJ_X12_findTotals_94 hz hN hF (fun _ _ => ih) rp1 rv2 hW h
          · have h := zif_t c18 h
            refine s_aload_n 0 hz dX12_findTotals_70 rfl ?_
            refine s_getR 48 hz fl_X12_132 sf51 rfl (by decide) dX12_findTotals_71 ?_
            refine s_aload_n 0 hz dX12_findTotals_74 rfl ?_
            refine s_getR 41 hz fl_X12_114 sf51 rfl (by decide) dX12_findTotals_75 ?_
            refine s_iload_n 2 hz dX12_findTotals_78 rfl ?_
            obtain ⟨g19, h⟩ := zg_of h
            refine s_iald hz sf77 rfl (by decide) g19 dX12_findTotals_79 ?_
            refine s_sipush hz dX12_findTotals_80 sp_200 ?_
            obtain ⟨g20, h⟩ := zg_of h
            refine s_irem hz g20.1 g20.2 (hW 77 _ sf77 v2) rl_200 dX12_findTotals_83 ?_
            refine s_dup2 hz rfl rfl dX12_findTotals_84 ?_
            obtain ⟨g21, h⟩ := zg_of h
            refine s_iald hz sf83 rfl (by decide) g21 dX12_findTotals_85 ?_
            refine s_aload_n 0 hz dX12_findTotals_86 rfl ?_
            refine s_getR 28 hz fl_X12_84 sf51 rfl (by decide) dX12_findTotals_87 ?_
            refine s_iload_n 2 hz dX12_findTotals_90 rfl ?_
            obtain ⟨g22, h⟩ := zg_of h
            refine s_iald hz sf67 rfl (by decide) g22 dX12_findTotals_91 ?_
            refine s_iadd hz dX12_findTotals_92 ?_
            obtain ⟨x23, ex23, rx23, h⟩ := zl_ex h
            rw [← ex23]
            obtain ⟨g24, h⟩ := zg_of h
            obtain ⟨S25, eS25, h⟩ := zs_ex h
            have hW25 : WR shF S25 := by rw [eS25]; exact hW.up (i := ((S 77 v2) % 200)) sf83 (v := x23) rx23
            refine s_iast hz sf83 rfl (by decide) g24 dX12_findTotals_93 ?_
            rw [← eS25]
            exact TJ_X12_findTotals_94 hz hN hF (fun _ _ => ih) rp1 rv2 hW25 h
def M_X12_findTotals (a1 : Int) (S : HS) : zO2 :=
  zb (M_X12_findTaken S) fun _ S2 =>
  L_X12_findTotals_6 (fun S8 =>
      L_X12_findTotals_31 a1 zBig 0 S8) a1 zBig 0 S2
set_option maxHeartbeats 4000000 in
set_option maxRecDepth 20000 in
theorem T_X12_findTotals {a1 : Int} {S S' : HS} {r : Int} (ra1 : rng a1) (hW : WR shF S) (h : M_X12_findTotals a1 S = some (r, S')) : zV shF yX12_findTotals cX12_findTotals 3 6 [aR 51, aI a1] S S' := by
  refine zV_of (by decide +kernel) (Nat.le_of_ble_eq_true rfl) (fun z hz hN hF => ?_)
  have hz : zO z cX12_findTotals RX12 6 shF := hz
  show zA z 0 [(0, aR 51), (1, aI a1)] [] S
  unfold M_X12_findTotals at h
  refine s_aload_n 0 hz dX12_findTotals_0 rfl ?_
  obtain ⟨r1, S2, hc2, h⟩ := zb_of h
  refine s_callVv [] [] hz ml_X12_351 sv_yX12_findTaken (T_X12_findTaken hW hc2) (by decide) rfl sf51 rfl rfl (Nat.le_of_ble_eq_true rfl) dX12_findTotals_1 (fun hW2 => ?_)
  refine s_iconst hz dX12_findTotals_4 ?_
  refine s_istore_n (l' := [(2, aI 0), (0, aR 51), (1, aI a1)]) hz hN dX12_findTotals_5 (by decide) rfl ?_
  refine s_pick (l' := [(0, aR 51), (1, aI a1), (2, aI 0)]) [1, 2, 0] rfl ?_
  refine TL_X12_findTotals_6 hz hN hF ?_ ra1 zBig rl_0 hW2 h
  · clear h 
    intro S8 hW8 h
    refine s_iconst hz dX12_findTotals_29 ?_
    refine s_istore_n (l' := [(2, aI 0), (0, aR 51), (1, aI a1)]) hz hN dX12_findTotals_30 (by decide) rfl ?_
    refine s_pick (l' := [(0, aR 51), (1, aI a1), (2, aI 0)]) [1, 2, 0] rfl ?_
    exact TL_X12_findTotals_31 hz hN hF ra1 zBig rl_0 hW8 h
def J_X12_addedAt_48 (k5 : Int → Int → HS → zO2) (v1 : Int) (v2 : Int) (v4 : Int) (t0 : Int) (t1 : Int) (S : HS) : zO2 :=
  zl (t1 + t0) fun x4 =>
  zl (v4 + 1) fun x5 =>
  k5 x4 x5 S
set_option maxHeartbeats 4000000 in
set_option maxRecDepth 20000 in
theorem TJ_X12_addedAt_48 {k5 : Int → Int → HS → zO2} {v1 : Int} {v2 : Int} {v4 : Int} {t0 : Int} {t1 : Int} {S : HS} {r : Int} {S' : HS} {z : Zt} (hz : zO z cX12_addedAt RX12 1 shF) (hN : zN z 5) (hF : zFi z shF .int r S') (hk5 : ∀ (w3 w4 : Int) (S : HS), rng w3 → rng w4 → WR shF S → k5 w3 w4 S = some (r, S') → zA z 5 [(0, aR 51), (1, aI v1), (2, aI v2), (3, aI w3), (4, aI w4)] [] S) (rv1 : rng v1) (rv2 : rng v2) (rv4 : rng v4) (rt0 : rng t0) (rt1 : rng t1) (hW : WR shF S) (h : J_X12_addedAt_48 k5 v1 v2 v4 t0 t1 S = some (r, S')) : zA z 48 [(0, aR 51), (1, aI v1), (2, aI v2), (4, aI v4)] [aI t0, aI t1] S := by
  unfold J_X12_addedAt_48 at h
  refine s_iadd hz dX12_addedAt_48 ?_
  obtain ⟨x4, ex4, rx4, h⟩ := zl_ex h
  rw [← ex4]
  refine s_istore_n (l' := [(3, aI x4), (0, aR 51), (1, aI v1), (2, aI v2), (4, aI v4)]) hz hN dX12_addedAt_49 (by decide) rfl ?_
  obtain ⟨x5, ex5, rx5, h⟩ := zl_ex h
  refine s_iinc (k0 := 4) (y := x5) (l' := [(4, aI x5), (3, aI x4), (0, aR 51), (1, aI v1), (2, aI v2)]) hz hN dX12_addedAt_50 rfl ex5.symm (by decide) rfl ?_
  refine s_goto 5 hz dX12_addedAt_53 rfl ?_
  refine s_pick (l' := [(0, aR 51), (1, aI v1), (2, aI v2), (3, aI x4), (4, aI x5)]) [2, 3, 4, 1, 0] rfl ?_
  exact hk5 _ _ _ rx4 rx5 hW h
def J_X12_addedAt_47 (k5 : Int → Int → HS → zO2) (v1 : Int) (v2 : Int) (v4 : Int) (t0 : Int) (S : HS) : zO2 :=
  J_X12_addedAt_48 k5 v1 v2 v4 0 t0 S
set_option maxHeartbeats 4000000 in
set_option maxRecDepth 20000 in
theorem TJ_X12_addedAt_47 {k5 : Int → Int → HS → zO2} {v1 : Int} {v2 : Int} {v4 : Int} {t0 : Int} {S : HS} {r : Int} {S' : HS} {z : Zt} (hz : zO z cX12_addedAt RX12 1 shF) (hN : zN z 5) (hF : zFi z shF .int r S') (hk5 : ∀ (w3 w4 : Int) (S : HS), rng w3 → rng w4 → WR shF S → k5 w3 w4 S = some (r, S') → zA z 5 [(0, aR 51), (1, aI v1), (2, aI v2), (3, aI w3), (4, aI w4)] [] S) (rv1 : rng v1) (rv2 : rng v2) (rv4 : rng v4) (rt0 : rng t0) (hW : WR shF S) (h : J_X12_addedAt_47 k5 v1 v2 v4 t0 S = some (r, S')) : zA z 47 [(0, aR 51), (1, aI v1), (2, aI v2), (4, aI v4)] [aI t0] S := by
  unfold J_X12_addedAt_47 at h
  refine s_iconst hz dX12_addedAt_47 ?_
  exact TJ_X12_addedAt_48 hz hN hF hk5 rv1 rv2 rv4 rl_0 rt0 hW h
def L_X12_addedAt_5 (p1 : Int) (p2 : Int) : Nat → Int → Int → HS → zO2
  | 0, _, _, _ => none
  | n + 1, v3, v4, S => 
    if S 51 43 ≤ v4 then (
      some (v3, S))
    else (
      zg ((0 : Int) ≤ v4 ∧ v4 < 60) <|
      if S 79 v4 = p1 then (
        zg ((0 : Int) ≤ v4 ∧ v4 < 60) <|
        if S 80 v4 = p2 then (
          zg ((0 : Int) ≤ v4 ∧ v4 < 60) <|
          J_X12_addedAt_48 (L_X12_addedAt_5 p1 p2 n) p1 p2 v4 (S 81 v4) v3 S)
        else (
          J_X12_addedAt_47 (L_X12_addedAt_5 p1 p2 n) p1 p2 v4 v3 S))
      else (
        J_X12_addedAt_47 (L_X12_addedAt_5 p1 p2 n) p1 p2 v4 v3 S))
set_option maxHeartbeats 4000000 in
set_option maxRecDepth 20000 in
theorem TL_X12_addedAt_5 {p1 : Int} {p2 : Int} {r : Int} {S' : HS} {z : Zt} (hz : zO z cX12_addedAt RX12 1 shF) (hN : zN z 5) (hF : zFi z shF .int r S') (rp1 : rng p1) (rp2 : rng p2) : ∀ (n : Nat) {v3 : Int} {v4 : Int} {S : HS}, rng v3 → rng v4 → WR shF S → L_X12_addedAt_5 p1 p2 n v3 v4 S = some (r, S') → zA z 5 [(0, aR 51), (1, aI p1), (2, aI p2), (3, aI v3), (4, aI v4)] [] S := by
  intro n
  induction n with
  | zero =>
    intro _ _ _ _ _ _ h
    cases h
  | succ n ih =>
    intro v3 v4 S rv3 rv4 hW h
    rw [L_X12_addedAt_5.eq_2] at h
    refine s_iload 4 hz dX12_addedAt_5 rfl ?_
    refine s_aload_n 0 hz dX12_addedAt_7 rfl ?_
    refine s_getI (kz := 43) 43 hz fl_X12_357 sf51 rfl rfl dX12_addedAt_8 ?_
    refine s_icmp_ge 56 hz rv4 (hW 51 _ sf51 43) dX12_addedAt_11 rfl (fun c1 => ?_) (fun c1 => ?_)
    · have h := zif_t c1 h
      refine s_iload_n 3 hz dX12_addedAt_56 rfl ?_
      exact s_iret h hz hF rv3 hW dX12_addedAt_57
    · have h := zif_f c1 h
      refine s_iload_n 3 hz dX12_addedAt_14 rfl ?_
      refine s_aload_n 0 hz dX12_addedAt_15 rfl ?_
      refine s_getR 44 hz fl_X12_120 sf51 rfl (by decide) dX12_addedAt_16 ?_
      refine s_iload 4 hz dX12_addedAt_19 rfl ?_
      obtain ⟨g2, h⟩ := zg_of h
      refine s_iald hz sf79 rfl (by decide) g2 dX12_addedAt_21 ?_
      refine s_iload_n 1 hz dX12_addedAt_22 rfl ?_
      refine s_icmp_ne 47 hz (hW 79 _ sf79 v4) rp1 dX12_addedAt_23 rfl (fun c3 => ?_) (fun c3 => ?_)
      · have h := zif_f c3 h
        refine s_pick (l' := [(0, aR 51), (1, aI p1), (2, aI p2), (4, aI v4)]) [0, 1, 2, 4] rfl ?_
        exact TJ_X12_addedAt_47 hz hN hF (fun _ _ _ => ih) rp1 rp2 rv4 rv3 hW h
      · have h := zif_t c3 h
        refine s_aload_n 0 hz dX12_addedAt_26 rfl ?_
        refine s_getR 45 hz fl_X12_123 sf51 rfl (by decide) dX12_addedAt_27 ?_
        refine s_iload 4 hz dX12_addedAt_30 rfl ?_
        obtain ⟨g6, h⟩ := zg_of h
        refine s_iald hz sf80 rfl (by decide) g6 dX12_addedAt_32 ?_
        refine s_iload_n 2 hz dX12_addedAt_33 rfl ?_
        refine s_icmp_ne 47 hz (hW 80 _ sf80 v4) rp2 dX12_addedAt_34 rfl (fun c7 => ?_) (fun c7 => ?_)
        · have h := zif_f c7 h
          refine s_pick (l' := [(0, aR 51), (1, aI p1), (2, aI p2), (4, aI v4)]) [0, 1, 2, 4] rfl ?_
          exact TJ_X12_addedAt_47 hz hN hF (fun _ _ _ => ih) rp1 rp2 rv4 rv3 hW h
        · have h := zif_t c7 h
          refine s_aload_n 0 hz dX12_addedAt_37 rfl ?_
          refine s_getR 46 hz fl_X12_126 sf51 rfl (by decide) dX12_addedAt_38 ?_
          refine s_iload 4 hz dX12_addedAt_41 rfl ?_
          obtain ⟨g8, h⟩ := zg_of h
          refine s_iald hz sf81 rfl (by decide) g8 dX12_addedAt_43 ?_
          refine s_goto 48 hz dX12_addedAt_44 rfl ?_
          refine s_pick (l' := [(0, aR 51), (1, aI p1), (2, aI p2), (4, aI v4)]) [0, 1, 2, 4] rfl ?_
          exact TJ_X12_addedAt_48 hz hN hF (fun _ _ _ => ih) rp1 rp2 rv4 (hW 81 _ sf81 v4) rv3 hW h
def M_X12_addedAt (a1 : Int) (a2 : Int) (S : HS) : zO2 :=
  L_X12_addedAt_5 a1 a2 zBig 0 0 S
set_option maxHeartbeats 4000000 in
set_option maxRecDepth 20000 in
theorem T_X12_addedAt {a1 : Int} {a2 : Int} {S S' : HS} {r : Int} (ra1 : rng a1) (ra2 : rng a2) (hW : WR shF S) (h : M_X12_addedAt a1 a2 S = some (r, S')) : zR shF yX12_addedAt cX12_addedAt 5  .int 1 [aR 51, aI a1, aI a2] S r S' := by
  refine zR_of (by decide +kernel) (Nat.le_of_ble_eq_true rfl) (fun z hz hN hF => ?_)
  have hz : zO z cX12_addedAt RX12 1 shF := hz
  show zA z 0 [(0, aR 51), (1, aI a1), (2, aI a2)] [] S
  unfold M_X12_addedAt at h
  refine s_iconst hz dX12_addedAt_0 ?_
  refine s_istore_n (l' := [(3, aI 0), (0, aR 51), (1, aI a1), (2, aI a2)]) hz hN dX12_addedAt_1 (by decide) rfl ?_
  refine s_iconst hz dX12_addedAt_2 ?_
  refine s_istore (l' := [(4, aI 0), (3, aI 0), (0, aR 51), (1, aI a1), (2, aI a2)]) hz hN dX12_addedAt_3 (by decide) rfl ?_
  refine s_pick (l' := [(0, aR 51), (1, aI a1), (2, aI a2), (3, aI 0), (4, aI 0)]) [2, 3, 4, 1, 0] rfl ?_
  exact TL_X12_addedAt_5 hz hN hF ra1 ra2 zBig rl_0 rl_0 hW h
def J_X12_swaps_100 (k49 : Int → HS → zO2) (v1 : Int) (v2 : Int) (v3 : Int) (v4 : Int) (v6 : Int) (t0 : Int) (t1 : Int) (S : HS) : zO2 :=
  zg ((0 : Int) ≤ t1 ∧ t1 < 192) <|
  zs (up S 85 t1 t0) fun S14 =>
  zl (v6 + 1) fun x15 =>
  k49 x15 S14
set_option maxHeartbeats 4000000 in
set_option maxRecDepth 20000 in
theorem TJ_X12_swaps_100 {k49 : Int → HS → zO2} {v1 : Int} {v2 : Int} {v3 : Int} {v4 : Int} {v6 : Int} {t0 : Int} {t1 : Int} {S : HS} {r : Int} {S' : HS} {z : Zt} (hz : zO z cX12_swaps RX12 1 shF) (hN : zN z 7) (hF : zFv z shF S') (hk49 : ∀ (w6 : Int) (S : HS), rng w6 → WR shF S → k49 w6 S = some (r, S') → zA z 49 [(0, aR 51), (1, aI v1), (2, aI v2), (3, aI v3), (4, aI v4), (6, aI w6)] [] S) (rv1 : rng v1) (rv2 : rng v2) (rv3 : rng v3) (rv4 : rng v4) (rv6 : rng v6) (rt0 : rng t0) (rt1 : rng t1) (hW : WR shF S) (h : J_X12_swaps_100 k49 v1 v2 v3 v4 v6 t0 t1 S = some (r, S')) : zA z 100 [(0, aR 51), (1, aI v1), (2, aI v2), (3, aI v3), (4, aI v4), (6, aI v6)] [aI t0, aI t1, aR 85] S := by
  unfold J_X12_swaps_100 at h
  obtain ⟨g13, h⟩ := zg_of h
  obtain ⟨S14, eS14, h⟩ := zs_ex h
  have hW14 : WR shF S14 := by rw [eS14]; exact hW.up (i := t1) sf85 (v := t0) rt0
  refine s_iast hz sf85 rfl (by decide) g13 dX12_swaps_100 ?_
  rw [← eS14]
  obtain ⟨x15, ex15, rx15, h⟩ := zl_ex h
  refine s_iinc (k0 := 5) (y := x15) (l' := [(6, aI x15), (0, aR 51), (1, aI v1), (2, aI v2), (3, aI v3), (4, aI v4)]) hz hN dX12_swaps_101 rfl ex15.symm (by decide) rfl ?_
  refine s_goto 49 hz dX12_swaps_104 rfl ?_
  refine s_pick (l' := [(0, aR 51), (1, aI v1), (2, aI v2), (3, aI v3), (4, aI v4), (6, aI x15)]) [1, 2, 3, 4, 5, 0] rfl ?_
  exact hk49 _ _ rx15 hW14 h
def L_X12_swaps_49 (k107 : HS → zO2) (p1 : Int) (p2 : Int) (p3 : Int) (p4 : Int) : Nat → Int → HS → zO2
  | 0, _, _ => none
  | n + 1, v6, S => 
    if p2 < v6 then (
      k107 S)
    else (
      zg ((0 : Int) ≤ v6 ∧ v6 < 192) <|
      if S 85 v6 = p3 then (
        J_X12_swaps_100 (L_X12_swaps_49 k107 p1 p2 p3 p4 n) p1 p2 p3 p4 v6 p4 v6 S)
      else (
        zg ((0 : Int) ≤ v6 ∧ v6 < 192) <|
        if S 85 v6 = p4 then (
          J_X12_swaps_100 (L_X12_swaps_49 k107 p1 p2 p3 p4 n) p1 p2 p3 p4 v6 p3 v6 S)
        else (
          zg ((0 : Int) ≤ v6 ∧ v6 < 192) <|
          J_X12_swaps_100 (L_X12_swaps_49 k107 p1 p2 p3 p4 n) p1 p2 p3 p4 v6 (S 85 v6) v6 S)))
set_option maxHeartbeats 4000000 in
set_option maxRecDepth 20000 in
theorem TL_X12_swaps_49 {k107 : HS → zO2} {p1 : Int} {p2 : Int} {p3 : Int} {p4 : Int} {r : Int} {S' : HS} {z : Zt} (hz : zO z cX12_swaps RX12 1 shF) (hN : zN z 7) (hF : zFv z shF S') (hk107 : ∀ (S : HS), WR shF S → k107 S = some (r, S') → zA z 107 [(0, aR 51), (1, aI p1), (2, aI p2), (3, aI p3), (4, aI p4)] [] S) (rp1 : rng p1) (rp2 : rng p2) (rp3 : rng p3) (rp4 : rng p4) : ∀ (n : Nat) {v6 : Int} {S : HS}, rng v6 → WR shF S → L_X12_swaps_49 k107 p1 p2 p3 p4 n v6 S = some (r, S') → zA z 49 [(0, aR 51), (1, aI p1), (2, aI p2), (3, aI p3), (4, aI p4), (6, aI v6)] [] S := by
  intro n
  induction n with
  | zero =>
    intro _ _ _ _ h
    cases h
  | succ n ih =>
    intro v6 S rv6 hW h
    rw [L_X12_swaps_49.eq_2] at h
    refine s_iload 5 hz dX12_swaps_49 rfl ?_
    refine s_iload_n 2 hz dX12_swaps_51 rfl ?_
    refine s_icmp_gt 107 hz rv6 rp2 dX12_swaps_52 rfl (fun c7 => ?_) (fun c7 => ?_)
    · have h := zif_t c7 h
      refine s_pick (l' := [(0, aR 51), (1, aI p1), (2, aI p2), (3, aI p3), (4, aI p4)]) [0, 1, 2, 3, 4] rfl ?_
      exact hk107 _ hW h
    · have h := zif_f c7 h
      refine s_aload_n 0 hz dX12_swaps_55 rfl ?_
      refine s_getR 50 hz fl_X12_138 sf51 rfl (by decide) dX12_swaps_56 ?_
      refine s_iload 5 hz dX12_swaps_59 rfl ?_
      refine s_aload_n 0 hz dX12_swaps_61 rfl ?_
      refine s_getR 50 hz fl_X12_138 sf51 rfl (by decide) dX12_swaps_62 ?_
      refine s_iload 5 hz dX12_swaps_65 rfl ?_
      obtain ⟨g8, h⟩ := zg_of h
      refine s_iald hz sf85 rfl (by decide) g8 dX12_swaps_67 ?_
      refine s_iload_n 3 hz dX12_swaps_68 rfl ?_
      refine s_icmp_ne 77 hz (hW 85 _ sf85 v6) rp3 dX12_swaps_69 rfl (fun c9 => ?_) (fun c9 => ?_)
      · have h := zif_f c9 h
        refine s_aload_n 0 hz dX12_swaps_77 rfl ?_
        refine s_getR 50 hz fl_X12_138 sf51 rfl (by decide) dX12_swaps_78 ?_
        refine s_iload 5 hz dX12_swaps_81 rfl ?_
        obtain ⟨g10, h⟩ := zg_of h
        refine s_iald hz sf85 rfl (by decide) g10 dX12_swaps_83 ?_
        refine s_iload 4 hz dX12_swaps_84 rfl ?_
        refine s_icmp_ne 93 hz (hW 85 _ sf85 v6) rp4 dX12_swaps_86 rfl (fun c11 => ?_) (fun c11 => ?_)
        · have h := zif_f c11 h
          refine s_aload_n 0 hz dX12_swaps_93 rfl ?_
          refine s_getR 50 hz fl_X12_138 sf51 rfl (by decide) dX12_swaps_94 ?_
          refine s_iload 5 hz dX12_swaps_97 rfl ?_
          obtain ⟨g12, h⟩ := zg_of h
          refine s_iald hz sf85 rfl (by decide) g12 dX12_swaps_99 ?_
          exact TJ_X12_swaps_100 hz hN hF (fun _ _ => ih) rp1 rp2 rp3 rp4 rv6 (hW 85 _ sf85 v6) rv6 hW h
        · have h := zif_t c11 h
          refine s_iload_n 3 hz dX12_swaps_89 rfl ?_
          refine s_goto 100 hz dX12_swaps_90 rfl ?_
          exact TJ_X12_swaps_100 hz hN hF (fun _ _ => ih) rp1 rp2 rp3 rp4 rv6 rp3 rv6 hW h
      · have h := zif_t c9 h
        refine s_iload 4 hz dX12_swaps_72 rfl ?_
        refine s_goto 100 hz dX12_swaps_74 rfl ?_
        exact TJ_X12_swaps_100 hz hN hF (fun _ _ => ih) rp1 rp2 rp3 rp4 rv6 rp4 rv6 hW h
def J_X12_swaps_161 (k110 : Int → HS → zO2) (v1 : Int) (v2 : Int) (v3 : Int) (v4 : Int) (v6 : Int) (t0 : Int) (t1 : Int) (S : HS) : zO2 :=
  zg ((0 : Int) ≤ t1 ∧ t1 < 3) <|
  zs (up S 87 t1 t0) fun S24 =>
  zl (v6 + 1) fun x25 =>
  k110 x25 S24
set_option maxHeartbeats 4000000 in
set_option maxRecDepth 20000 in
theorem TJ_X12_swaps_161 {k110 : Int → HS → zO2} {v1 : Int} {v2 : Int} {v3 : Int} {v4 : Int} {v6 : Int} {t0 : Int} {t1 : Int} {S : HS} {r : Int} {S' : HS} {z : Zt} (hz : zO z cX12_swaps RX12 1 shF) (hN : zN z 7) (hF : zFv z shF S') (hk110 : ∀ (w6 : Int) (S : HS), rng w6 → WR shF S → k110 w6 S = some (r, S') → zA z 110 [(0, aR 51), (1, aI v1), (2, aI v2), (3, aI v3), (4, aI v4), (6, aI w6)] [] S) (rv1 : rng v1) (rv2 : rng v2) (rv3 : rng v3) (rv4 : rng v4) (rv6 : rng v6) (rt0 : rng t0) (rt1 : rng t1) (hW : WR shF S) (h : J_X12_swaps_161 k110 v1 v2 v3 v4 v6 t0 t1 S = some (r, S')) : zA z 161 [(0, aR 51), (1, aI v1), (2, aI v2), (3, aI v3), (4, aI v4), (6, aI v6)] [aI t0, aI t1, aR 87] S := by
  unfold J_X12_swaps_161 at h
  obtain ⟨g23, h⟩ := zg_of h
  obtain ⟨S24, eS24, h⟩ := zs_ex h
  have hW24 : WR shF S24 := by rw [eS24]; exact hW.up (i := t1) sf87 (v := t0) rt0
  refine s_iast hz sf87 rfl (by decide) g23 dX12_swaps_161 ?_
  rw [← eS24]
  obtain ⟨x25, ex25, rx25, h⟩ := zl_ex h
  refine s_iinc (k0 := 5) (y := x25) (l' := [(6, aI x25), (0, aR 51), (1, aI v1), (2, aI v2), (3, aI v3), (4, aI v4)]) hz hN dX12_swaps_162 rfl ex25.symm (by decide) rfl ?_
  refine s_goto 110 hz dX12_swaps_165 rfl ?_
  refine s_pick (l' := [(0, aR 51), (1, aI v1), (2, aI v2), (3, aI v3), (4, aI v4), (6, aI x25)]) [1, 2, 3, 4, 5, 0] rfl ?_
  exact hk110 _ _ rx25 hW24 h
def L_X12_swaps_110 (k168 : HS → zO2) (p1 : Int) (p2 : Int) (p3 : Int) (p4 : Int) : Nat → Int → HS → zO2
  | 0, _, _ => none
  | n + 1, v6, S => 
    if 3 ≤ v6 then (
      k168 S)
    else (
      zg ((0 : Int) ≤ v6 ∧ v6 < 3) <|
      if S 87 v6 = p3 then (
        J_X12_swaps_161 (L_X12_swaps_110 k168 p1 p2 p3 p4 n) p1 p2 p3 p4 v6 p4 v6 S)
      else (
        zg ((0 : Int) ≤ v6 ∧ v6 < 3) <|
        if S 87 v6 = p4 then (
          J_X12_swaps_161 (L_X12_swaps_110 k168 p1 p2 p3 p4 n) p1 p2 p3 p4 v6 p3 v6 S)
        else (
          zg ((0 : Int) ≤ v6 ∧ v6 < 3) <|
          J_X12_swaps_161 (L_X12_swaps_110 k168 p1 p2 p3 p4 n) p1 p2 p3 p4 v6 (S 87 v6) v6 S)))
set_option maxHeartbeats 4000000 in
set_option maxRecDepth 20000 in
theorem TL_X12_swaps_110 {k168 : HS → zO2} {p1 : Int} {p2 : Int} {p3 : Int} {p4 : Int} {r : Int} {S' : HS} {z : Zt} (hz : zO z cX12_swaps RX12 1 shF) (hN : zN z 7) (hF : zFv z shF S') (hk168 : ∀ (S : HS), WR shF S → k168 S = some (r, S') → zA z 168 [(0, aR 51), (1, aI p1), (2, aI p2), (3, aI p3), (4, aI p4)] [] S) (rp1 : rng p1) (rp2 : rng p2) (rp3 : rng p3) (rp4 : rng p4) : ∀ (n : Nat) {v6 : Int} {S : HS}, rng v6 → WR shF S → L_X12_swaps_110 k168 p1 p2 p3 p4 n v6 S = some (r, S') → zA z 110 [(0, aR 51), (1, aI p1), (2, aI p2), (3, aI p3), (4, aI p4), (6, aI v6)] [] S := by
  intro n
  induction n with
  | zero =>
    intro _ _ _ _ h
    cases h
  | succ n ih =>
    intro v6 S rv6 hW h
    rw [L_X12_swaps_110.eq_2] at h
    refine s_iload 5 hz dX12_swaps_110 rfl ?_
    refine s_iconst hz dX12_swaps_112 ?_
    refine s_icmp_ge 168 hz rv6 rl_3 dX12_swaps_113 rfl (fun c17 => ?_) (fun c17 => ?_)
    · have h := zif_t c17 h
      refine s_pick (l' := [(0, aR 51), (1, aI p1), (2, aI p2), (3, aI p3), (4, aI p4)]) [0, 1, 2, 3, 4] rfl ?_
      exact hk168 _ hW h
    · have h := zif_f c17 h
      refine s_aload_n 0 hz dX12_swaps_116 rfl ?_
      refine s_getR 52 hz fl_X12_144 sf51 rfl (by decide) dX12_swaps_117 ?_
      refine s_iload 5 hz dX12_swaps_120 rfl ?_
      refine s_aload_n 0 hz dX12_swaps_122 rfl ?_
      refine s_getR 52 hz fl_X12_144 sf51 rfl (by decide) dX12_swaps_123 ?_
      refine s_iload 5 hz dX12_swaps_126 rfl ?_
      obtain ⟨g18, h⟩ := zg_of h
      refine s_iald hz sf87 rfl (by decide) g18 dX12_swaps_128 ?_
      refine s_iload_n 3 hz dX12_swaps_129 rfl ?_
      refine s_icmp_ne 138 hz (hW 87 _ sf87 v6) rp3 dX12_swaps_130 rfl (fun c19 => ?_) (fun c19 => ?_)
      · have h := zif_f c19 h
        refine s_aload_n 0 hz dX12_swaps_138 rfl ?_
        refine s_getR 52 hz fl_X12_144 sf51 rfl (by decide) dX12_swaps_139 ?_
        refine s_iload 5 hz dX12_swaps_142 rfl ?_
        obtain ⟨g20, h⟩ := zg_of h
        refine s_iald hz sf87 rfl (by decide) g20 dX12_swaps_144 ?_
        refine s_iload 4 hz dX12_swaps_145 rfl ?_
        refine s_icmp_ne 154 hz (hW 87 _ sf87 v6) rp4 dX12_swaps_147 rfl (fun c21 => ?_) (fun c21 => ?_)
        · have h := zif_f c21 h
          refine s_aload_n 0 hz dX12_swaps_154 rfl ?_
          refine s_getR 52 hz fl_X12_144 sf51 rfl (by decide) dX12_swaps_155 ?_
          refine s_iload 5 hz dX12_swaps_158 rfl ?_
          obtain ⟨g22, h⟩ := zg_of h
          refine s_iald hz sf87 rfl (by decide) g22 dX12_swaps_160 ?_
          exact TJ_X12_swaps_161 hz hN hF (fun _ _ => ih) rp1 rp2 rp3 rp4 rv6 (hW 87 _ sf87 v6) rv6 hW h
        · have h := zif_t c21 h
          refine s_iload_n 3 hz dX12_swaps_150 rfl ?_
          refine s_goto 161 hz dX12_swaps_151 rfl ?_
          exact TJ_X12_swaps_161 hz hN hF (fun _ _ => ih) rp1 rp2 rp3 rp4 rv6 rp3 rv6 hW h
      · have h := zif_t c19 h
        refine s_iload 4 hz dX12_swaps_133 rfl ?_
        refine s_goto 161 hz dX12_swaps_135 rfl ?_
        exact TJ_X12_swaps_161 hz hN hF (fun _ _ => ih) rp1 rp2 rp3 rp4 rv6 rp4 rv6 hW h
def J_X12_swaps_248 (k171 : Int → HS → zO2) (v1 : Int) (v2 : Int) (v3 : Int) (v4 : Int) (v6 : Int) (S : HS) : zO2 :=
  zl (v6 + 1) fun x30 =>
  k171 x30 S
set_option maxHeartbeats 4000000 in
set_option maxRecDepth 20000 in
theorem TJ_X12_swaps_248 {k171 : Int → HS → zO2} {v1 : Int} {v2 : Int} {v3 : Int} {v4 : Int} {v6 : Int} {S : HS} {r : Int} {S' : HS} {z : Zt} (hz : zO z cX12_swaps RX12 1 shF) (hN : zN z 7) (hF : zFv z shF S') (hk171 : ∀ (w6 : Int) (S : HS), rng w6 → WR shF S → k171 w6 S = some (r, S') → zA z 171 [(0, aR 51), (1, aI v1), (2, aI v2), (3, aI v3), (4, aI v4), (6, aI w6)] [] S) (rv1 : rng v1) (rv2 : rng v2) (rv3 : rng v3) (rv4 : rng v4) (rv6 : rng v6) (hW : WR shF S) (h : J_X12_swaps_248 k171 v1 v2 v3 v4 v6 S = some (r, S')) : zA z 248 [(0, aR 51), (1, aI v1), (2, aI v2), (3, aI v3), (4, aI v4), (6, aI v6)] [] S := by
  unfold J_X12_swaps_248 at h
  obtain ⟨x30, ex30, rx30, h⟩ := zl_ex h
  refine s_iinc (k0 := 5) (y := x30) (l' := [(6, aI x30), (0, aR 51), (1, aI v1), (2, aI v2), (3, aI v3), (4, aI v4)]) hz hN dX12_swaps_248 rfl ex30.symm (by decide) rfl ?_
  refine s_goto 171 hz dX12_swaps_251 rfl ?_
  refine s_pick (l' := [(0, aR 51), (1, aI v1), (2, aI v2), (3, aI v3), (4, aI v4), (6, aI x30)]) [1, 2, 3, 4, 5, 0] rfl ?_
  exact hk171 _ _ rx30 hW h
def J_X12_swaps_247 (k171 : Int → HS → zO2) (v1 : Int) (v2 : Int) (v3 : Int) (v4 : Int) (v6 : Int) (t0 : Int) (t1 : Int) (S : HS) : zO2 :=
  zg ((0 : Int) ≤ t1 ∧ t1 < 60) <|
  zs (up S 88 t1 t0) fun S39 =>
  J_X12_swaps_248 k171 v1 v2 v3 v4 v6 S39
set_option maxHeartbeats 4000000 in
set_option maxRecDepth 20000 in
theorem TJ_X12_swaps_247 {k171 : Int → HS → zO2} {v1 : Int} {v2 : Int} {v3 : Int} {v4 : Int} {v6 : Int} {t0 : Int} {t1 : Int} {S : HS} {r : Int} {S' : HS} {z : Zt} (hz : zO z cX12_swaps RX12 1 shF) (hN : zN z 7) (hF : zFv z shF S') (hk171 : ∀ (w6 : Int) (S : HS), rng w6 → WR shF S → k171 w6 S = some (r, S') → zA z 171 [(0, aR 51), (1, aI v1), (2, aI v2), (3, aI v3), (4, aI v4), (6, aI w6)] [] S) (rv1 : rng v1) (rv2 : rng v2) (rv3 : rng v3) (rv4 : rng v4) (rv6 : rng v6) (rt0 : rng t0) (rt1 : rng t1) (hW : WR shF S) (h : J_X12_swaps_247 k171 v1 v2 v3 v4 v6 t0 t1 S = some (r, S')) : zA z 247 [(0, aR 51), (1, aI v1), (2, aI v2), (3, aI v3), (4, aI v4), (6, aI v6)] [aI t0, aI t1, aR 88] S := by
  unfold J_X12_swaps_247 at h
  obtain ⟨g38, h⟩ := zg_of h
  obtain ⟨S39, eS39, h⟩ := zs_ex h
  have hW39 : WR shF S39 := by rw [eS39]; exact hW.up (i := t1) sf88 (v := t0) rt0
  refine s_iast hz sf88 rfl (by decide) g38 dX12_swaps_247 ?_
  rw [← eS39]
  exact TJ_X12_swaps_248 hz hN hF hk171 rv1 rv2 rv3 rv4 rv6 hW39 h
def L_X12_swaps_171 (p1 : Int) (p2 : Int) (p3 : Int) (p4 : Int) : Nat → Int → HS → zO2
  | 0, _, _ => none
  | n + 1, v6, S => 
    if S 51 43 ≤ v6 then (
      some (0, S))
    else (
      zg ((0 : Int) ≤ v6 ∧ v6 < 60) <|
      if S 79 v6 = p1 then (
        zg ((0 : Int) ≤ v6 ∧ v6 < 60) <|
        if p2 < S 80 v6 then (
          J_X12_swaps_248 (L_X12_swaps_171 p1 p2 p3 p4 n) p1 p2 p3 p4 v6 S)
        else (
          zg ((0 : Int) ≤ v6 ∧ v6 < 60) <|
          if S 88 v6 = p3 then (
            J_X12_swaps_247 (L_X12_swaps_171 p1 p2 p3 p4 n) p1 p2 p3 p4 v6 p4 v6 S)
          else (
            zg ((0 : Int) ≤ v6 ∧ v6 < 60) <|
            if S 88 v6 = p4 then (
              J_X12_swaps_247 (L_X12_swaps_171 p1 p2 p3 p4 n) p1 p2 p3 p4 v6 p3 v6 S)
            else (
              zg ((0 : Int) ≤ v6 ∧ v6 < 60) <|
              J_X12_swaps_247 (L_X12_swaps_171 p1 p2 p3 p4 n) p1 p2 p3 p4 v6 (S 88 v6) v6 S))))
      else (
        J_X12_swaps_248 (L_X12_swaps_171 p1 p2 p3 p4 n) p1 p2 p3 p4 v6 S))
set_option maxHeartbeats 4000000 in
set_option maxRecDepth 20000 in
theorem TL_X12_swaps_171 {p1 : Int} {p2 : Int} {p3 : Int} {p4 : Int} {r : Int} {S' : HS} {z : Zt} (hz : zO z cX12_swaps RX12 1 shF) (hN : zN z 7) (hF : zFv z shF S') (rp1 : rng p1) (rp2 : rng p2) (rp3 : rng p3) (rp4 : rng p4) : ∀ (n : Nat) {v6 : Int} {S : HS}, rng v6 → WR shF S → L_X12_swaps_171 p1 p2 p3 p4 n v6 S = some (r, S') → zA z 171 [(0, aR 51), (1, aI p1), (2, aI p2), (3, aI p3), (4, aI p4), (6, aI v6)] [] S := by
  intro n
  induction n with
  | zero =>
    intro _ _ _ _ h
    cases h
  | succ n ih =>
    intro v6 S rv6 hW h
    rw [L_X12_swaps_171.eq_2] at h
    refine s_iload 5 hz dX12_swaps_171 rfl ?_
    refine s_aload_n 0 hz dX12_swaps_173 rfl ?_
    refine s_getI (kz := 43) 43 hz fl_X12_357 sf51 rfl rfl dX12_swaps_174 ?_
    refine s_icmp_ge 254 hz rv6 (hW 51 _ sf51 43) dX12_swaps_177 rfl (fun c27 => ?_) (fun c27 => ?_)
    · have h := zif_t c27 h
      exact s_vret h hz hF hW dX12_swaps_254
    · have h := zif_f c27 h
      refine s_aload_n 0 hz dX12_swaps_180 rfl ?_
      refine s_getR 44 hz fl_X12_120 sf51 rfl (by decide) dX12_swaps_181 ?_
      refine s_iload 5 hz dX12_swaps_184 rfl ?_
      obtain ⟨g28, h⟩ := zg_of h
      refine s_iald hz sf79 rfl (by decide) g28 dX12_swaps_186 ?_
      refine s_iload_n 1 hz dX12_swaps_187 rfl ?_
      refine s_icmp_ne 248 hz (hW 79 _ sf79 v6) rp1 dX12_swaps_188 rfl (fun c29 => ?_) (fun c29 => ?_)
      · have h := zif_f c29 h
        exact TJ_X12_swaps_248 hz hN hF (fun _ _ => ih) rp1 rp2 rp3 rp4 rv6 hW h
      · have h := zif_t c29 h
        refine s_aload_n 0 hz dX12_swaps_191 rfl ?_
        refine s_getR 45 hz fl_X12_123 sf51 rfl (by decide) dX12_swaps_192 ?_
        refine s_iload 5 hz dX12_swaps_195 rfl ?_
        obtain ⟨g31, h⟩ := zg_of h
        refine s_iald hz sf80 rfl (by decide) g31 dX12_swaps_197 ?_
        refine s_iload_n 2 hz dX12_swaps_198 rfl ?_
        refine s_icmp_gt 248 hz (hW 80 _ sf80 v6) rp2 dX12_swaps_199 rfl (fun c32 => ?_) (fun c32 => ?_)
        · have h := zif_t c32 h
          exact TJ_X12_swaps_248 hz hN hF (fun _ _ => ih) rp1 rp2 rp3 rp4 rv6 hW h
        · have h := zif_f c32 h
          refine s_aload_n 0 hz dX12_swaps_202 rfl ?_
          refine s_getR 53 hz fl_X12_147 sf51 rfl (by decide) dX12_swaps_203 ?_
          refine s_iload 5 hz dX12_swaps_206 rfl ?_
          refine s_aload_n 0 hz dX12_swaps_208 rfl ?_
          refine s_getR 53 hz fl_X12_147 sf51 rfl (by decide) dX12_swaps_209 ?_
          refine s_iload 5 hz dX12_swaps_212 rfl ?_
          obtain ⟨g33, h⟩ := zg_of h
          refine s_iald hz sf88 rfl (by decide) g33 dX12_swaps_214 ?_
          refine s_iload_n 3 hz dX12_swaps_215 rfl ?_
          refine s_icmp_ne 224 hz (hW 88 _ sf88 v6) rp3 dX12_swaps_216 rfl (fun c34 => ?_) (fun c34 => ?_)
          · have h := zif_f c34 h
            refine s_aload_n 0 hz dX12_swaps_224 rfl ?_
            refine s_getR 53 hz fl_X12_147 sf51 rfl (by decide) dX12_swaps_225 ?_
            refine s_iload 5 hz dX12_swaps_228 rfl ?_
            obtain ⟨g35, h⟩ := zg_of h
            refine s_iald hz sf88 rfl (by decide) g35 dX12_swaps_230 ?_
            refine s_iload 4 hz dX12_swaps_231 rfl ?_
            refine s_icmp_ne 240 hz (hW 88 _ sf88 v6) rp4 dX12_swaps_233 rfl (fun c36 => ?_) (fun c36 => ?_)
            · have h := zif_f c36 h
              refine s_aload_n 0 hz dX12_swaps_240 rfl ?_
              refine s_getR 53 hz fl_X12_147 sf51 rfl (by decide) dX12_swaps_241 ?_
              refine s_iload 5 hz dX12_swaps_244 rfl ?_
              obtain ⟨g37, h⟩ := zg_of h
              refine s_iald hz sf88 rfl (by decide) g37 dX12_swaps_246 ?_
              exact TJ_X12_swaps_247 hz hN hF (fun _ _ => ih) rp1 rp2 rp3 rp4 rv6 (hW 88 _ sf88 v6) rv6 hW h
            · have h := zif_t c36 h
              refine s_iload_n 3 hz dX12_swaps_236 rfl ?_
              refine s_goto 247 hz dX12_swaps_237 rfl ?_
              exact TJ_X12_swaps_247 hz hN hF (fun _ _ => ih) rp1 rp2 rp3 rp4 rv6 rp3 rv6 hW h
          · have h := zif_t c34 h
            refine s_iload 4 hz dX12_swaps_219 rfl ?_
            refine s_goto 247 hz dX12_swaps_221 rfl ?_
            exact TJ_X12_swaps_247 hz hN hF (fun _ _ => ih) rp1 rp2 rp3 rp4 rv6 rp4 rv6 hW h
def M_X12_swaps (a1 : Int) (a2 : Int) (a3 : Int) (a4 : Int) (S : HS) : zO2 :=
  zg ((0 : Int) ≤ (3 * a2) + a3 ∧ (3 * a2) + a3 < 576) <|
  zg ((0 : Int) ≤ (3 * a2) + a4 ∧ (3 * a2) + a4 < 576) <|
  zg ((0 : Int) ≤ (3 * a2) + a3 ∧ (3 * a2) + a3 < 576) <|
  zs (up S 84 ((3 * a2) + a3) (S 84 ((3 * a2) + a4))) fun S4 =>
  zg ((0 : Int) ≤ (3 * a2) + a4 ∧ (3 * a2) + a4 < 576) <|
  zs (up S4 84 ((3 * a2) + a4) (S 84 ((3 * a2) + a3))) fun S6 =>
  L_X12_swaps_49 (fun S16 =>
      L_X12_swaps_110 (fun S26 =>
          L_X12_swaps_171 a1 a2 a3 a4 zBig 0 S26) a1 a2 a3 a4 zBig 0 S16) a1 a2 a3 a4 zBig 0 S6
set_option maxHeartbeats 4000000 in
set_option maxRecDepth 20000 in
theorem T_X12_swaps {a1 : Int} {a2 : Int} {a3 : Int} {a4 : Int} {S S' : HS} {r : Int} (ra1 : rng a1) (ra2 : rng a2) (ra3 : rng a3) (ra4 : rng a4) (hW : WR shF S) (h : M_X12_swaps a1 a2 a3 a4 S = some (r, S')) : zV shF yX12_swaps cX12_swaps 7 1 [aR 51, aI a1, aI a2, aI a3, aI a4] S S' := by
  refine zV_of (by decide +kernel) (Nat.le_of_ble_eq_true rfl) (fun z hz hN hF => ?_)
  have hz : zO z cX12_swaps RX12 1 shF := hz
  show zA z 0 [(0, aR 51), (1, aI a1), (2, aI a2), (3, aI a3), (4, aI a4)] [] S
  unfold M_X12_swaps at h
  refine s_aload_n 0 hz dX12_swaps_0 rfl ?_
  refine s_getR 49 hz fl_X12_135 sf51 rfl (by decide) dX12_swaps_1 ?_
  refine s_iconst hz dX12_swaps_4 ?_
  refine s_iload_n 2 hz dX12_swaps_5 rfl ?_
  refine s_imul hz dX12_swaps_6 ?_
  refine s_iload_n 3 hz dX12_swaps_7 rfl ?_
  refine s_iadd hz dX12_swaps_8 ?_
  obtain ⟨g1, h⟩ := zg_of h
  refine s_iald hz sf84 rfl (by decide) g1 dX12_swaps_9 ?_
  refine s_istore (l' := [(5, aI (S 84 ((3 * a2) + a3))), (0, aR 51), (1, aI a1), (2, aI a2), (3, aI a3), (4, aI a4)]) hz hN dX12_swaps_10 (by decide) rfl ?_
  refine s_aload_n 1 hz dX12_swaps_12 rfl ?_
  refine s_getR 49 hz fl_X12_135 sf51 rfl (by decide) dX12_swaps_13 ?_
  refine s_iconst hz dX12_swaps_16 ?_
  refine s_iload_n 3 hz dX12_swaps_17 rfl ?_
  refine s_imul hz dX12_swaps_18 ?_
  refine s_iload_n 4 hz dX12_swaps_19 rfl ?_
  refine s_iadd hz dX12_swaps_20 ?_
  refine s_aload_n 1 hz dX12_swaps_21 rfl ?_
  refine s_getR 49 hz fl_X12_135 sf51 rfl (by decide) dX12_swaps_22 ?_
  refine s_iconst hz dX12_swaps_25 ?_
  refine s_iload_n 3 hz dX12_swaps_26 rfl ?_
  refine s_imul hz dX12_swaps_27 ?_
  refine s_iload 5 hz dX12_swaps_28 rfl ?_
  refine s_iadd hz dX12_swaps_30 ?_
  obtain ⟨g2, h⟩ := zg_of h
  refine s_iald hz sf84 rfl (by decide) g2 dX12_swaps_31 ?_
  obtain ⟨g3, h⟩ := zg_of h
  obtain ⟨S4, eS4, h⟩ := zs_ex h
  have hW4 : WR shF S4 := by rw [eS4]; exact hW.up (i := ((3 * a2) + a3)) sf84 (v := (S 84 ((3 * a2) + a4))) (hW 84 _ sf84 ((3 * a2) + a4))
  refine s_iast hz sf84 rfl (by decide) g3 dX12_swaps_32 ?_
  rw [← eS4]
  refine s_aload_n 1 hz dX12_swaps_33 rfl ?_
  refine s_getR 49 hz fl_X12_135 sf51 rfl (by decide) dX12_swaps_34 ?_
  refine s_iconst hz dX12_swaps_37 ?_
  refine s_iload_n 3 hz dX12_swaps_38 rfl ?_
  refine s_imul hz dX12_swaps_39 ?_
  refine s_iload 5 hz dX12_swaps_40 rfl ?_
  refine s_iadd hz dX12_swaps_42 ?_
  refine s_iload 0 hz dX12_swaps_43 rfl ?_
  obtain ⟨g5, h⟩ := zg_of h
  obtain ⟨S6, eS6, h⟩ := zs_ex h
  have hW6 : WR shF S6 := by rw [eS6]; exact hW4.up (i := ((3 * a2) + a4)) sf84 (v := (S 84 ((3 * a2) + a3))) (hW 84 _ sf84 ((3 * a2) + a3))
  refine s_iast hz sf84 rfl (by decide) g5 dX12_swaps_45 ?_
  rw [← eS6]
  refine s_iconst hz dX12_swaps_46 ?_
  refine s_istore (l' := [(6, aI 0), (5, aI (S 84 ((3 * a2) + a3))), (0, aR 51), (1, aI a1), (2, aI a2), (3, aI a3), (4, aI a4)]) hz hN dX12_swaps_47 (by decide) rfl ?_
  refine s_pick (l' := [(0, aR 51), (1, aI a1), (2, aI a2), (3, aI a3), (4, aI a4), (6, aI 0)]) [2, 3, 4, 5, 6, 0] rfl ?_
  refine TL_X12_swaps_49 hz hN hF ?_ ra1 ra2 ra3 ra4 zBig rl_0 hW6 h
  · clear h 
    intro S16 hW16 h
    refine s_iconst hz dX12_swaps_107 ?_
    refine s_istore (l' := [(6, aI 0), (0, aR 51), (1, aI a1), (2, aI a2), (3, aI a3), (4, aI a4)]) hz hN dX12_swaps_108 (by decide) rfl ?_
    refine s_pick (l' := [(0, aR 51), (1, aI a1), (2, aI a2), (3, aI a3), (4, aI a4), (6, aI 0)]) [1, 2, 3, 4, 5, 0] rfl ?_
    refine TL_X12_swaps_110 hz hN hF ?_ ra1 ra2 ra3 ra4 zBig rl_0 hW16 h
    · clear h 
      intro S26 hW26 h
      refine s_iconst hz dX12_swaps_168 ?_
      refine s_istore (l' := [(6, aI 0), (0, aR 51), (1, aI a1), (2, aI a2), (3, aI a3), (4, aI a4)]) hz hN dX12_swaps_169 (by decide) rfl ?_
      refine s_pick (l' := [(0, aR 51), (1, aI a1), (2, aI a2), (3, aI a3), (4, aI a4), (6, aI 0)]) [1, 2, 3, 4, 5, 0] rfl ?_
      exact TL_X12_swaps_171 hz hN hF ra1 ra2 ra3 ra4 zBig rl_0 hW26 h
def J_X12_joinsIn_58 (k10 : Int → HS → zO2) (v1 : Int) (v2 : Int) (v3 : Int) (v4 : Int) (t0 : Int) (t1 : Int) (S : HS) : zO2 :=
  zg ((0 : Int) ≤ t1 ∧ t1 < 60) <|
  zs (up S 88 t1 t0) fun S8 =>
  zl (v4 + 1) fun x9 =>
  k10 x9 S8
set_option maxHeartbeats 4000000 in
set_option maxRecDepth 20000 in
theorem TJ_X12_joinsIn_58 {k10 : Int → HS → zO2} {v1 : Int} {v2 : Int} {v3 : Int} {v4 : Int} {t0 : Int} {t1 : Int} {S : HS} {r : Int} {S' : HS} {z : Zt} (hz : zO z cX12_joinsIn RX12 1 shF) (hN : zN z 5) (hF : zFv z shF S') (hk10 : ∀ (w4 : Int) (S : HS), rng w4 → WR shF S → k10 w4 S = some (r, S') → zA z 10 [(0, aR 51), (1, aI v1), (2, aI v2), (3, aI v3), (4, aI w4)] [] S) (rv1 : rng v1) (rv2 : rng v2) (rv3 : rng v3) (rv4 : rng v4) (rt0 : rng t0) (rt1 : rng t1) (hW : WR shF S) (h : J_X12_joinsIn_58 k10 v1 v2 v3 v4 t0 t1 S = some (r, S')) : zA z 58 [(0, aR 51), (1, aI v1), (2, aI v2), (3, aI v3), (4, aI v4)] [aI t0, aI t1, aR 88] S := by
  unfold J_X12_joinsIn_58 at h
  obtain ⟨g7, h⟩ := zg_of h
  obtain ⟨S8, eS8, h⟩ := zs_ex h
  have hW8 : WR shF S8 := by rw [eS8]; exact hW.up (i := t1) sf88 (v := t0) rt0
  refine s_iast hz sf88 rfl (by decide) g7 dX12_joinsIn_58 ?_
  rw [← eS8]
  obtain ⟨x9, ex9, rx9, h⟩ := zl_ex h
  refine s_iinc (k0 := 4) (y := x9) (l' := [(4, aI x9), (0, aR 51), (1, aI v1), (2, aI v2), (3, aI v3)]) hz hN dX12_joinsIn_59 rfl ex9.symm (by decide) rfl ?_
  refine s_goto 10 hz dX12_joinsIn_62 rfl ?_
  refine s_pick (l' := [(0, aR 51), (1, aI v1), (2, aI v2), (3, aI v3), (4, aI x9)]) [1, 2, 3, 4, 0] rfl ?_
  exact hk10 _ _ rx9 hW8 h
def J_X12_joinsIn_51 (k10 : Int → HS → zO2) (v1 : Int) (v2 : Int) (v3 : Int) (v4 : Int) (t0 : Int) (S : HS) : zO2 :=
  zg ((0 : Int) ≤ v4 ∧ v4 < 60) <|
  J_X12_joinsIn_58 k10 v1 v2 v3 v4 (S 88 v4) t0 S
set_option maxHeartbeats 4000000 in
set_option maxRecDepth 20000 in
theorem TJ_X12_joinsIn_51 {k10 : Int → HS → zO2} {v1 : Int} {v2 : Int} {v3 : Int} {v4 : Int} {t0 : Int} {S : HS} {r : Int} {S' : HS} {z : Zt} (hz : zO z cX12_joinsIn RX12 1 shF) (hN : zN z 5) (hF : zFv z shF S') (hk10 : ∀ (w4 : Int) (S : HS), rng w4 → WR shF S → k10 w4 S = some (r, S') → zA z 10 [(0, aR 51), (1, aI v1), (2, aI v2), (3, aI v3), (4, aI w4)] [] S) (rv1 : rng v1) (rv2 : rng v2) (rv3 : rng v3) (rv4 : rng v4) (rt0 : rng t0) (hW : WR shF S) (h : J_X12_joinsIn_51 k10 v1 v2 v3 v4 t0 S = some (r, S')) : zA z 51 [(0, aR 51), (1, aI v1), (2, aI v2), (3, aI v3), (4, aI v4)] [aI t0, aR 88] S := by
  unfold J_X12_joinsIn_51 at h
  refine s_aload_n 0 hz dX12_joinsIn_51 rfl ?_
  refine s_getR 53 hz fl_X12_147 sf51 rfl (by decide) dX12_joinsIn_52 ?_
  refine s_iload 4 hz dX12_joinsIn_55 rfl ?_
  obtain ⟨g6, h⟩ := zg_of h
  refine s_iald hz sf88 rfl (by decide) g6 dX12_joinsIn_57 ?_
  exact TJ_X12_joinsIn_58 hz hN hF hk10 rv1 rv2 rv3 rv4 (hW 88 _ sf88 v4) rt0 hW h
def L_X12_joinsIn_10 (p1 : Int) (p2 : Int) (p3 : Int) : Nat → Int → HS → zO2
  | 0, _, _ => none
  | n + 1, v4, S => 
    if S 51 43 ≤ v4 then (
      some (0, S))
    else (
      zg ((0 : Int) ≤ v4 ∧ v4 < 60) <|
      if S 79 v4 = p1 then (
        zg ((0 : Int) ≤ v4 ∧ v4 < 60) <|
        if S 80 v4 = p2 then (
          J_X12_joinsIn_58 (L_X12_joinsIn_10 p1 p2 p3 n) p1 p2 p3 v4 p3 v4 S)
        else (
          J_X12_joinsIn_51 (L_X12_joinsIn_10 p1 p2 p3 n) p1 p2 p3 v4 v4 S))
      else (
        J_X12_joinsIn_51 (L_X12_joinsIn_10 p1 p2 p3 n) p1 p2 p3 v4 v4 S))
set_option maxHeartbeats 4000000 in
set_option maxRecDepth 20000 in
theorem TL_X12_joinsIn_10 {p1 : Int} {p2 : Int} {p3 : Int} {r : Int} {S' : HS} {z : Zt} (hz : zO z cX12_joinsIn RX12 1 shF) (hN : zN z 5) (hF : zFv z shF S') (rp1 : rng p1) (rp2 : rng p2) (rp3 : rng p3) : ∀ (n : Nat) {v4 : Int} {S : HS}, rng v4 → WR shF S → L_X12_joinsIn_10 p1 p2 p3 n v4 S = some (r, S') → zA z 10 [(0, aR 51), (1, aI p1), (2, aI p2), (3, aI p3), (4, aI v4)] [] S := by
  intro n
  induction n with
  | zero =>
    intro _ _ _ _ h
    cases h
  | succ n ih =>
    intro v4 S rv4 hW h
    rw [L_X12_joinsIn_10.eq_2] at h
    refine s_iload 4 hz dX12_joinsIn_10 rfl ?_
    refine s_aload_n 0 hz dX12_joinsIn_12 rfl ?_
    refine s_getI (kz := 43) 43 hz fl_X12_357 sf51 rfl rfl dX12_joinsIn_13 ?_
    refine s_icmp_ge 65 hz rv4 (hW 51 _ sf51 43) dX12_joinsIn_16 rfl (fun c3 => ?_) (fun c3 => ?_)
    · have h := zif_t c3 h
      exact s_vret h hz hF hW dX12_joinsIn_65
    · have h := zif_f c3 h
      refine s_aload_n 0 hz dX12_joinsIn_19 rfl ?_
      refine s_getR 53 hz fl_X12_147 sf51 rfl (by decide) dX12_joinsIn_20 ?_
      refine s_iload 4 hz dX12_joinsIn_23 rfl ?_
      refine s_aload_n 0 hz dX12_joinsIn_25 rfl ?_
      refine s_getR 44 hz fl_X12_120 sf51 rfl (by decide) dX12_joinsIn_26 ?_
      refine s_iload 4 hz dX12_joinsIn_29 rfl ?_
      obtain ⟨g4, h⟩ := zg_of h
      refine s_iald hz sf79 rfl (by decide) g4 dX12_joinsIn_31 ?_
      refine s_iload_n 1 hz dX12_joinsIn_32 rfl ?_
      refine s_icmp_ne 51 hz (hW 79 _ sf79 v4) rp1 dX12_joinsIn_33 rfl (fun c5 => ?_) (fun c5 => ?_)
      · have h := zif_f c5 h
        exact TJ_X12_joinsIn_51 hz hN hF (fun _ _ => ih) rp1 rp2 rp3 rv4 rv4 hW h
      · have h := zif_t c5 h
        refine s_aload_n 0 hz dX12_joinsIn_36 rfl ?_
        refine s_getR 45 hz fl_X12_123 sf51 rfl (by decide) dX12_joinsIn_37 ?_
        refine s_iload 4 hz dX12_joinsIn_40 rfl ?_
        obtain ⟨g10, h⟩ := zg_of h
        refine s_iald hz sf80 rfl (by decide) g10 dX12_joinsIn_42 ?_
        refine s_iload_n 2 hz dX12_joinsIn_43 rfl ?_
        refine s_icmp_ne 51 hz (hW 80 _ sf80 v4) rp2 dX12_joinsIn_44 rfl (fun c11 => ?_) (fun c11 => ?_)
        · have h := zif_f c11 h
          exact TJ_X12_joinsIn_51 hz hN hF (fun _ _ => ih) rp1 rp2 rp3 rv4 rv4 hW h
        · have h := zif_t c11 h
          refine s_iload_n 3 hz dX12_joinsIn_47 rfl ?_
          refine s_goto 58 hz dX12_joinsIn_48 rfl ?_
          exact TJ_X12_joinsIn_58 hz hN hF (fun _ _ => ih) rp1 rp2 rp3 rv4 rp3 rv4 hW h
def M_X12_joinsIn (a1 : Int) (a2 : Int) (a3 : Int) (S : HS) : zO2 :=
  zg ((0 : Int) ≤ a2 ∧ a2 < 192) <|
  zs (up S 85 a2 a3) fun S2 =>
  L_X12_joinsIn_10 a1 a2 a3 zBig 0 S2
set_option maxHeartbeats 4000000 in
set_option maxRecDepth 20000 in
theorem T_X12_joinsIn {a1 : Int} {a2 : Int} {a3 : Int} {S S' : HS} {r : Int} (ra1 : rng a1) (ra2 : rng a2) (ra3 : rng a3) (hW : WR shF S) (h : M_X12_joinsIn a1 a2 a3 S = some (r, S')) : zV shF yX12_joinsIn cX12_joinsIn 5 1 [aR 51, aI a1, aI a2, aI a3] S S' := by
  refine zV_of (by decide +kernel) (Nat.le_of_ble_eq_true rfl) (fun z hz hN hF => ?_)
  have hz : zO z cX12_joinsIn RX12 1 shF := hz
  show zA z 0 [(0, aR 51), (1, aI a1), (2, aI a2), (3, aI a3)] [] S
  unfold M_X12_joinsIn at h
  refine s_aload_n 0 hz dX12_joinsIn_0 rfl ?_
  refine s_getR 50 hz fl_X12_138 sf51 rfl (by decide) dX12_joinsIn_1 ?_
  refine s_iload_n 2 hz dX12_joinsIn_4 rfl ?_
  refine s_iload_n 3 hz dX12_joinsIn_5 rfl ?_
  obtain ⟨g1, h⟩ := zg_of h
  obtain ⟨S2, eS2, h⟩ := zs_ex h
  have hW2 : WR shF S2 := by rw [eS2]; exact hW.up (i := a2) sf85 (v := a3) ra3
  refine s_iast hz sf85 rfl (by decide) g1 dX12_joinsIn_6 ?_
  rw [← eS2]
  refine s_iconst hz dX12_joinsIn_7 ?_
  refine s_istore (l' := [(4, aI 0), (0, aR 51), (1, aI a1), (2, aI a2), (3, aI a3)]) hz hN dX12_joinsIn_8 (by decide) rfl ?_
  refine s_pick (l' := [(0, aR 51), (1, aI a1), (2, aI a2), (3, aI a3), (4, aI 0)]) [1, 2, 3, 4, 0] rfl ?_
  exact TL_X12_joinsIn_10 hz hN hF ra1 ra2 ra3 zBig rl_0 hW2 h
def J_X12_braids_42 (k7 : Int → HS → zO2) (v1 : Int) (v2 : Int) (t0 : Int) (t1 : Int) (t2 : Int) (S : HS) : zO2 :=
  zl (t1 + t0) fun x9 =>
  zg ((0 : Int) ≤ t2 ∧ t2 < 3) <|
  zs (up S 86 t2 x9) fun S11 =>
  zg ((0 : Int) ≤ v2 ∧ v2 < 3) <|
  zs (up S11 87 v2 v2) fun S13 =>
  zg ((0 : Int) ≤ v2 ∧ v2 < 3) <|
  zg ((0 : Int) ≤ v2 ∧ v2 < 576) <|
  zs (up S13 84 v2 (S13 86 v2)) fun S16 =>
  zl (v2 + 1) fun x17 =>
  k7 x17 S16
set_option maxHeartbeats 4000000 in
set_option maxRecDepth 20000 in
theorem TJ_X12_braids_42 {k7 : Int → HS → zO2} {v1 : Int} {v2 : Int} {t0 : Int} {t1 : Int} {t2 : Int} {S : HS} {r : Int} {S' : HS} {z : Zt} (hz : zO z cX12_braids RX12 7 shF) (hN : zN z 5) (hF : zFv z shF S') (hk7 : ∀ (w2 : Int) (S : HS), rng w2 → WR shF S → k7 w2 S = some (r, S') → zA z 7 [(0, aR 51), (1, aI v1), (2, aI w2)] [] S) (rv1 : rng v1) (rv2 : rng v2) (rt0 : rng t0) (rt1 : rng t1) (rt2 : rng t2) (hW : WR shF S) (h : J_X12_braids_42 k7 v1 v2 t0 t1 t2 S = some (r, S')) : zA z 42 [(0, aR 51), (1, aI v1), (2, aI v2)] [aI t0, aI t1, aI t2, aR 86] S := by
  unfold J_X12_braids_42 at h
  refine s_iadd hz dX12_braids_42 ?_
  obtain ⟨x9, ex9, rx9, h⟩ := zl_ex h
  rw [← ex9]
  obtain ⟨g10, h⟩ := zg_of h
  obtain ⟨S11, eS11, h⟩ := zs_ex h
  have hW11 : WR shF S11 := by rw [eS11]; exact hW.up (i := t2) sf86 (v := x9) rx9
  refine s_iast hz sf86 rfl (by decide) g10 dX12_braids_43 ?_
  rw [← eS11]
  refine s_aload_n 0 hz dX12_braids_44 rfl ?_
  refine s_getR 52 hz fl_X12_144 sf51 rfl (by decide) dX12_braids_45 ?_
  refine s_iload_n 2 hz dX12_braids_48 rfl ?_
  refine s_iload_n 2 hz dX12_braids_49 rfl ?_
  obtain ⟨g12, h⟩ := zg_of h
  obtain ⟨S13, eS13, h⟩ := zs_ex h
  have hW13 : WR shF S13 := by rw [eS13]; exact hW11.up (i := v2) sf87 (v := v2) rv2
  refine s_iast hz sf87 rfl (by decide) g12 dX12_braids_50 ?_
  rw [← eS13]
  refine s_aload_n 0 hz dX12_braids_51 rfl ?_
  refine s_getR 49 hz fl_X12_135 sf51 rfl (by decide) dX12_braids_52 ?_
  refine s_iload_n 2 hz dX12_braids_55 rfl ?_
  refine s_aload_n 0 hz dX12_braids_56 rfl ?_
  refine s_getR 51 hz fl_X12_141 sf51 rfl (by decide) dX12_braids_57 ?_
  refine s_iload_n 2 hz dX12_braids_60 rfl ?_
  obtain ⟨g14, h⟩ := zg_of h
  refine s_iald hz sf86 rfl (by decide) g14 dX12_braids_61 ?_
  obtain ⟨g15, h⟩ := zg_of h
  obtain ⟨S16, eS16, h⟩ := zs_ex h
  have hW16 : WR shF S16 := by rw [eS16]; exact hW13.up (i := v2) sf84 (v := (S13 86 v2)) (hW13 86 _ sf86 v2)
  refine s_iast hz sf84 rfl (by decide) g15 dX12_braids_62 ?_
  rw [← eS16]
  obtain ⟨x17, ex17, rx17, h⟩ := zl_ex h
  refine s_iinc (k0 := 2) (y := x17) (l' := [(2, aI x17), (0, aR 51), (1, aI v1)]) hz hN dX12_braids_63 rfl ex17.symm (by decide) rfl ?_
  refine s_goto 7 hz dX12_braids_66 rfl ?_
  refine s_pick (l' := [(0, aR 51), (1, aI v1), (2, aI x17)]) [1, 2, 0] rfl ?_
  exact hk7 _ _ rx17 hW16 h
def L_X12_braids_7 (k69 : HS → zO2) (p1 : Int) : Nat → Int → HS → zO2
  | 0, _, _ => none
  | n + 1, v2, S => 
    if 3 ≤ v2 then (
      k69 S)
    else (
      zg ((0 : Int) ≤ S 83 0 ∧ (0 : Int) < 3) <|
      zg ((0 : Int) ≤ S 83 0 ∧ (0 : Int) < 3) <|
      zl ((S 83 0) % 3) fun x6 =>
      if x6 ≤ v2 then (
        zl ((S 83 0) / 3) fun x8 =>
        J_X12_braids_42 (L_X12_braids_7 k69 p1 n) p1 v2 0 x8 v2 S)
      else (
        zl ((S 83 0) / 3) fun x18 =>
        J_X12_braids_42 (L_X12_braids_7 k69 p1 n) p1 v2 1 x18 v2 S))
set_option maxHeartbeats 4000000 in
set_option maxRecDepth 20000 in
theorem TL_X12_braids_7 {k69 : HS → zO2} {p1 : Int} {r : Int} {S' : HS} {z : Zt} (hz : zO z cX12_braids RX12 7 shF) (hN : zN z 5) (hF : zFv z shF S') (hk69 : ∀ (S : HS), WR shF S → k69 S = some (r, S') → zA z 69 [(0, aR 51), (1, aI p1)] [] S) (rp1 : rng p1) : ∀ (n : Nat) {v2 : Int} {S : HS}, rng v2 → WR shF S → L_X12_braids_7 k69 p1 n v2 S = some (r, S') → zA z 7 [(0, aR 51), (1, aI p1), (2, aI v2)] [] S := by
  intro n
  induction n with
  | zero =>
    intro _ _ _ _ h
    cases h
  | succ n ih =>
    intro v2 S rv2 hW h
    rw [L_X12_braids_7.eq_2] at h
    refine s_iload_n 2 hz dX12_braids_7 rfl ?_
    refine s_iconst hz dX12_braids_8 ?_
    refine s_icmp_ge 69 hz rv2 rl_3 dX12_braids_9 rfl (fun c3 => ?_) (fun c3 => ?_)
    · have h := zif_t c3 h
      refine s_pick (l' := [(0, aR 51), (1, aI p1)]) [0, 1] rfl ?_
      exact hk69 _ hW h
    · have h := zif_f c3 h
      refine s_aload_n 0 hz dX12_braids_12 rfl ?_
      refine s_getR 51 hz fl_X12_141 sf51 rfl (by decide) dX12_braids_13 ?_
      refine s_iload_n 2 hz dX12_braids_16 rfl ?_
      refine s_aload_n 0 hz dX12_braids_17 rfl ?_
      refine s_getR 48 hz fl_X12_132 sf51 rfl (by decide) dX12_braids_18 ?_
      refine s_iconst hz dX12_braids_21 ?_
      refine s_iald hz sf83 rfl (by decide) (by decide) dX12_braids_22 ?_
      refine s_iconst hz dX12_braids_23 ?_
      obtain ⟨g4, h⟩ := zg_of h
      refine s_idiv hz g4.1 g4.2 (hW 83 _ sf83 0) rl_3 dX12_braids_24 ?_
      refine s_aload_n 0 hz dX12_braids_25 rfl ?_
      refine s_getR 48 hz fl_X12_132 sf51 rfl (by decide) dX12_braids_26 ?_
      refine s_iconst hz dX12_braids_29 ?_
      refine s_iald hz sf83 rfl (by decide) (by decide) dX12_braids_30 ?_
      refine s_iconst hz dX12_braids_31 ?_
      obtain ⟨g5, h⟩ := zg_of h
      refine s_irem hz g5.1 g5.2 (hW 83 _ sf83 0) rl_3 dX12_braids_32 ?_
      refine s_iload_n 2 hz dX12_braids_33 rfl ?_
      obtain ⟨x6, ex6, rx6, h⟩ := zl_ex h
      rw [← ex6]
      refine s_icmp_le 41 hz rx6 rv2 dX12_braids_34 rfl (fun c7 => ?_) (fun c7 => ?_)
      · have h := zif_t c7 h
        refine s_iconst hz dX12_braids_41 ?_
        obtain ⟨x8, ex8, rx8, h⟩ := zl_ex h
        rw [← ex8]
        exact TJ_X12_braids_42 hz hN hF (fun _ _ => ih) rp1 rv2 rl_0 rx8 rv2 hW h
      · have h := zif_f c7 h
        refine s_iconst hz dX12_braids_37 ?_
        refine s_goto 42 hz dX12_braids_38 rfl ?_
        obtain ⟨x18, ex18, rx18, h⟩ := zl_ex h
        rw [← ex18]
        exact TJ_X12_braids_42 hz hN hF (fun _ _ => ih) rp1 rv2 rl_1 rx18 rv2 hW h
