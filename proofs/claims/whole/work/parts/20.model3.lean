def L_X12_braids_119 (k155 : HS → zO2) (p1 : Int) (p2 : Int) (p3 : Int) : Nat → Int → HS → zO2
  | 0, _, _ => none
  | n + 1, v4, S => 
    if 3 ≤ v4 then (
      k155 S)
    else (
      zg ((0 : Int) ≤ (3 * (p2 - 1)) + v4 ∧ (3 * (p2 - 1)) + v4 < 576) <|
      zg ((0 : Int) ≤ (3 * p2) + v4 ∧ (3 * p2) + v4 < 576) <|
      zs (up S 84 ((3 * p2) + v4) (S 84 ((3 * (p2 - 1)) + v4))) fun S34 =>
      zl (v4 + 1) fun x35 =>
      L_X12_braids_119 k155 p1 p2 p3 n x35 S34)
set_option maxHeartbeats 4000000 in
set_option maxRecDepth 20000 in
theorem TL_X12_braids_119 {k155 : HS → zO2} {p1 : Int} {p2 : Int} {p3 : Int} {r : Int} {S' : HS} {z : Zt} (hz : zO z cX12_braids RX12 7 shF) (hN : zN z 5) (hF : zFv z shF S') (hk155 : ∀ (S : HS), WR shF S → k155 S = some (r, S') → zA z 155 [(0, aR 51), (1, aI p1), (2, aI p2), (3, aI p3)] [] S) (rp1 : rng p1) (rp2 : rng p2) (rp3 : rng p3) : ∀ (n : Nat) {v4 : Int} {S : HS}, rng v4 → WR shF S → L_X12_braids_119 k155 p1 p2 p3 n v4 S = some (r, S') → zA z 119 [(0, aR 51), (1, aI p1), (2, aI p2), (3, aI p3), (4, aI v4)] [] S := by
  intro n
  induction n with
  | zero =>
    intro _ _ _ _ h
    cases h
  | succ n ih =>
    intro v4 S rv4 hW h
    rw [L_X12_braids_119.eq_2] at h
    refine s_iload 4 hz dX12_braids_119 rfl ?_
    refine s_iconst hz dX12_braids_121 ?_
    refine s_icmp_ge 155 hz rv4 rl_3 dX12_braids_122 rfl (fun c31 => ?_) (fun c31 => ?_)
    · have h := zif_t c31 h
      refine s_pick (l' := [(0, aR 51), (1, aI p1), (2, aI p2), (3, aI p3)]) [0, 1, 2, 3] rfl ?_
      exact hk155 _ hW h
    · have h := zif_f c31 h
      refine s_aload_n 0 hz dX12_braids_125 rfl ?_
      refine s_getR 49 hz fl_X12_135 sf51 rfl (by decide) dX12_braids_126 ?_
      refine s_iconst hz dX12_braids_129 ?_
      refine s_iload_n 2 hz dX12_braids_130 rfl ?_
      refine s_imul hz dX12_braids_131 ?_
      refine s_iload 4 hz dX12_braids_132 rfl ?_
      refine s_iadd hz dX12_braids_134 ?_
      refine s_aload_n 0 hz dX12_braids_135 rfl ?_
      refine s_getR 49 hz fl_X12_135 sf51 rfl (by decide) dX12_braids_136 ?_
      refine s_iconst hz dX12_braids_139 ?_
      refine s_iload_n 2 hz dX12_braids_140 rfl ?_
      refine s_iconst hz dX12_braids_141 ?_
      refine s_isub hz dX12_braids_142 ?_
      refine s_imul hz dX12_braids_143 ?_
      refine s_iload 4 hz dX12_braids_144 rfl ?_
      refine s_iadd hz dX12_braids_146 ?_
      obtain ⟨g32, h⟩ := zg_of h
      refine s_iald hz sf84 rfl (by decide) g32 dX12_braids_147 ?_
      obtain ⟨g33, h⟩ := zg_of h
      obtain ⟨S34, eS34, h⟩ := zs_ex h
      have hW34 : WR shF S34 := by rw [eS34]; exact hW.up (i := ((3 * p2) + v4)) sf84 (v := (S 84 ((3 * (p2 - 1)) + v4))) (hW 84 _ sf84 ((3 * (p2 - 1)) + v4))
      refine s_iast hz sf84 rfl (by decide) g33 dX12_braids_148 ?_
      rw [← eS34]
      obtain ⟨x35, ex35, rx35, h⟩ := zl_ex h
      refine s_iinc (k0 := 4) (y := x35) (l' := [(4, aI x35), (0, aR 51), (1, aI p1), (2, aI p2), (3, aI p3)]) hz hN dX12_braids_149 rfl ex35.symm (by decide) rfl ?_
      refine s_goto 119 hz dX12_braids_152 rfl ?_
      refine s_pick (l' := [(0, aR 51), (1, aI p1), (2, aI p2), (3, aI p3), (4, aI x35)]) [1, 2, 3, 4, 0] rfl ?_
      exact ih rx35 hW34 h
def J_X12_braids_115 (k93 : Int → HS → zO2) (v1 : Int) (v2 : Int) (t0 : Int) (S : HS) : zO2 :=
  L_X12_braids_119 (fun S36 =>
      zg ((0 : Int) ≤ (3 * v2) + t0 ∧ (3 * v2) + t0 < 576) <|
      zg ((0 : Int) ≤ v2 ∧ v2 < 192) <|
      zb (M_X12_addedAt v1 v2 S36) fun r39 S40 =>
      zl ((S36 84 ((3 * v2) + t0)) + ((S36 83 v2) + r39)) fun x41 =>
      zg ((0 : Int) ≤ (3 * v2) + t0 ∧ (3 * v2) + t0 < 576) <|
      zs (up S40 84 ((3 * v2) + t0) x41) fun S43 =>
      zb (M_X12_joinsIn v1 v2 t0 S43) fun _ S45 =>
      zb (M_X12_swaps v1 v2 t0 1 S45) fun _ S47 =>
      zl (v2 + 1) fun x48 =>
      k93 x48 S47) v1 v2 t0 zBig 0 S
set_option maxHeartbeats 4000000 in
set_option maxRecDepth 20000 in
theorem TJ_X12_braids_115 {k93 : Int → HS → zO2} {v1 : Int} {v2 : Int} {t0 : Int} {S : HS} {r : Int} {S' : HS} {z : Zt} (hz : zO z cX12_braids RX12 7 shF) (hN : zN z 5) (hF : zFv z shF S') (hk93 : ∀ (w2 : Int) (S : HS), rng w2 → WR shF S → k93 w2 S = some (r, S') → zA z 93 [(0, aR 51), (1, aI v1), (2, aI w2)] [] S) (rv1 : rng v1) (rv2 : rng v2) (rt0 : rng t0) (hW : WR shF S) (h : J_X12_braids_115 k93 v1 v2 t0 S = some (r, S')) : zA z 115 [(0, aR 51), (1, aI v1), (2, aI v2)] [aI t0] S := by
  unfold J_X12_braids_115 at h
  refine s_istore_n (l' := [(3, aI t0), (0, aR 51), (1, aI v1), (2, aI v2)]) hz hN dX12_braids_115 (by decide) rfl ?_
  refine s_iconst hz dX12_braids_116 ?_
  refine s_istore (l' := [(4, aI 0), (3, aI t0), (0, aR 51), (1, aI v1), (2, aI v2)]) hz hN dX12_braids_117 (by decide) rfl ?_
  refine s_pick (l' := [(0, aR 51), (1, aI v1), (2, aI v2), (3, aI t0), (4, aI 0)]) [2, 3, 4, 1, 0] rfl ?_
  refine TL_X12_braids_119 hz hN hF ?_ rv1 rv2 rt0 zBig rl_0 hW h
  · clear h 
    intro S36 hW36 h
    refine s_aload_n 0 hz dX12_braids_155 rfl ?_
    refine s_getR 49 hz fl_X12_135 sf51 rfl (by decide) dX12_braids_156 ?_
    refine s_iconst hz dX12_braids_159 ?_
    refine s_iload_n 2 hz dX12_braids_160 rfl ?_
    refine s_imul hz dX12_braids_161 ?_
    refine s_iload_n 3 hz dX12_braids_162 rfl ?_
    refine s_iadd hz dX12_braids_163 ?_
    refine s_dup2 hz rfl rfl dX12_braids_164 ?_
    obtain ⟨g37, h⟩ := zg_of h
    refine s_iald hz sf84 rfl (by decide) g37 dX12_braids_165 ?_
    refine s_aload_n 0 hz dX12_braids_166 rfl ?_
    refine s_getR 48 hz fl_X12_132 sf51 rfl (by decide) dX12_braids_167 ?_
    refine s_iload_n 2 hz dX12_braids_170 rfl ?_
    obtain ⟨g38, h⟩ := zg_of h
    refine s_iald hz sf83 rfl (by decide) g38 dX12_braids_171 ?_
    refine s_aload_n 0 hz dX12_braids_172 rfl ?_
    refine s_iload_n 1 hz dX12_braids_173 rfl ?_
    refine s_iload_n 2 hz dX12_braids_174 rfl ?_
    obtain ⟨r39, S40, hc40, h⟩ := zb_of h
    refine s_callV [aI v1, aI v2] [aI (S36 83 v2), aI (S36 84 ((3 * v2) + t0)), aI ((3 * v2) + t0), aR 84] hz ml_X12_363 sv_yX12_addedAt (T_X12_addedAt rv1 rv2 hW36 hc40) (by decide) rfl sf51 rfl rfl (Nat.le_of_ble_eq_true rfl) dX12_braids_175 (fun rr39 hW40 => ?_)
    refine s_iadd hz dX12_braids_178 ?_
    refine s_iadd hz dX12_braids_179 ?_
    obtain ⟨x41, ex41, rx41, h⟩ := zl_ex h
    rw [← ex41]
    obtain ⟨g42, h⟩ := zg_of h
    obtain ⟨S43, eS43, h⟩ := zs_ex h
    have hW43 : WR shF S43 := by rw [eS43]; exact hW40.up (i := ((3 * v2) + t0)) sf84 (v := x41) rx41
    refine s_iast hz sf84 rfl (by decide) g42 dX12_braids_180 ?_
    rw [← eS43]
    refine s_aload_n 0 hz dX12_braids_181 rfl ?_
    refine s_iload_n 1 hz dX12_braids_182 rfl ?_
    refine s_iload_n 2 hz dX12_braids_183 rfl ?_
    refine s_iload_n 3 hz dX12_braids_184 rfl ?_
    obtain ⟨r44, S45, hc45, h⟩ := zb_of h
    refine s_callVv [aI v1, aI v2, aI t0] [] hz ml_X12_366 sv_yX12_joinsIn (T_X12_joinsIn rv1 rv2 rt0 hW43 hc45) (by decide) rfl sf51 rfl rfl (Nat.le_of_ble_eq_true rfl) dX12_braids_185 (fun hW45 => ?_)
    refine s_aload_n 0 hz dX12_braids_188 rfl ?_
    refine s_iload_n 1 hz dX12_braids_189 rfl ?_
    refine s_iload_n 2 hz dX12_braids_190 rfl ?_
    refine s_iload_n 3 hz dX12_braids_191 rfl ?_
    refine s_iconst hz dX12_braids_192 ?_
    obtain ⟨r46, S47, hc47, h⟩ := zb_of h
    refine s_callVv [aI v1, aI v2, aI t0, aI 1] [] hz ml_X12_370 sv_yX12_swaps (T_X12_swaps rv1 rv2 rt0 rl_1 hW45 hc47) (by decide) rfl sf51 rfl rfl (Nat.le_of_ble_eq_true rfl) dX12_braids_193 (fun hW47 => ?_)
    obtain ⟨x48, ex48, rx48, h⟩ := zl_ex h
    refine s_iinc (k0 := 2) (y := x48) (l' := [(2, aI x48), (0, aR 51), (1, aI v1), (3, aI t0)]) hz hN dX12_braids_196 rfl ex48.symm (by decide) rfl ?_
    refine s_goto 93 hz dX12_braids_199 rfl ?_
    refine s_pick (l' := [(0, aR 51), (1, aI v1), (2, aI x48)]) [1, 2, 0] rfl ?_
    exact hk93 _ _ rx48 hW47 h
def L_X12_braids_93 (p1 : Int) : Nat → Int → HS → zO2
  | 0, _, _ => none
  | n + 1, v2, S => 
    zg ((0 : Int) ≤ p1 ∧ p1 < 24) <|
    if S 69 p1 ≤ v2 then (
      some (0, S))
    else (
      zg ((0 : Int) ≤ v2 ∧ (0 : Int) < 2) <|
      zl (v2 % 2) fun x29 =>
      if x29 = 1 then (
        J_X12_braids_115 (L_X12_braids_93 p1 n) p1 v2 0 S)
      else (
        J_X12_braids_115 (L_X12_braids_93 p1 n) p1 v2 2 S))
set_option maxHeartbeats 4000000 in
set_option maxRecDepth 20000 in
theorem TL_X12_braids_93 {p1 : Int} {r : Int} {S' : HS} {z : Zt} (hz : zO z cX12_braids RX12 7 shF) (hN : zN z 5) (hF : zFv z shF S') (rp1 : rng p1) : ∀ (n : Nat) {v2 : Int} {S : HS}, rng v2 → WR shF S → L_X12_braids_93 p1 n v2 S = some (r, S') → zA z 93 [(0, aR 51), (1, aI p1), (2, aI v2)] [] S := by
  intro n
  induction n with
  | zero =>
    intro _ _ _ _ h
    cases h
  | succ n ih =>
    intro v2 S rv2 hW h
    rw [L_X12_braids_93.eq_2] at h
    refine s_iload_n 2 hz dX12_braids_93 rfl ?_
    refine s_aload_n 0 hz dX12_braids_94 rfl ?_
    refine s_getR 30 hz fl_X12_90 sf51 rfl (by decide) dX12_braids_95 ?_
    refine s_iload_n 1 hz dX12_braids_98 rfl ?_
    obtain ⟨g26, h⟩ := zg_of h
    refine s_iald hz sf69 rfl (by decide) g26 dX12_braids_99 ?_
    refine s_icmp_ge 202 hz rv2 (hW 69 _ sf69 p1) dX12_braids_100 rfl (fun c27 => ?_) (fun c27 => ?_)
    · have h := zif_t c27 h
      exact s_vret h hz hF hW dX12_braids_202
    · have h := zif_f c27 h
      refine s_iload_n 2 hz dX12_braids_103 rfl ?_
      refine s_iconst hz dX12_braids_104 ?_
      obtain ⟨g28, h⟩ := zg_of h
      refine s_irem hz g28.1 g28.2 rv2 rl_2 dX12_braids_105 ?_
      refine s_iconst hz dX12_braids_106 ?_
      obtain ⟨x29, ex29, rx29, h⟩ := zl_ex h
      rw [← ex29]
      refine s_icmp_ne 114 hz rx29 rl_1 dX12_braids_107 rfl (fun c30 => ?_) (fun c30 => ?_)
      · have h := zif_f c30 h
        refine s_iconst hz dX12_braids_114 ?_
        exact TJ_X12_braids_115 hz hN hF (fun _ _ => ih) rp1 rv2 rl_2 hW h
      · have h := zif_t c30 h
        refine s_iconst hz dX12_braids_110 ?_
        refine s_goto 115 hz dX12_braids_111 rfl ?_
        exact TJ_X12_braids_115 hz hN hF (fun _ _ => ih) rp1 rv2 rl_0 hW h
def M_X12_braids (a1 : Int) (S : HS) : zO2 :=
  zb (M_X12_findTotals a1 S) fun _ S2 =>
  L_X12_braids_7 (fun S19 =>
      zb (M_X12_addedAt a1 0 S19) fun r20 S21 =>
      zl ((S19 84 0) + r20) fun x22 =>
      zs (up S21 84 0 x22) fun S23 =>
      zb (M_X12_joinsIn a1 0 0 S23) fun _ S25 =>
      L_X12_braids_93 a1 zBig 1 S25) a1 zBig 0 S2
set_option maxHeartbeats 4000000 in
set_option maxRecDepth 20000 in
theorem T_X12_braids {a1 : Int} {S S' : HS} {r : Int} (ra1 : rng a1) (hW : WR shF S) (h : M_X12_braids a1 S = some (r, S')) : zV shF yX12_braids cX12_braids 5 7 [aR 51, aI a1] S S' := by
  refine zV_of (by decide +kernel) (Nat.le_of_ble_eq_true rfl) (fun z hz hN hF => ?_)
  have hz : zO z cX12_braids RX12 7 shF := hz
  show zA z 0 [(0, aR 51), (1, aI a1)] [] S
  unfold M_X12_braids at h
  refine s_aload_n 0 hz dX12_braids_0 rfl ?_
  refine s_iload_n 1 hz dX12_braids_1 rfl ?_
  obtain ⟨r1, S2, hc2, h⟩ := zb_of h
  refine s_callVv [aI a1] [] hz ml_X12_360 sv_yX12_findTotals (T_X12_findTotals ra1 hW hc2) (by decide) rfl sf51 rfl rfl (Nat.le_of_ble_eq_true rfl) dX12_braids_2 (fun hW2 => ?_)
  refine s_iconst hz dX12_braids_5 ?_
  refine s_istore_n (l' := [(2, aI 0), (0, aR 51), (1, aI a1)]) hz hN dX12_braids_6 (by decide) rfl ?_
  refine s_pick (l' := [(0, aR 51), (1, aI a1), (2, aI 0)]) [1, 2, 0] rfl ?_
  refine TL_X12_braids_7 hz hN hF ?_ ra1 zBig rl_0 hW2 h
  · clear h 
    intro S19 hW19 h
    refine s_aload_n 0 hz dX12_braids_69 rfl ?_
    refine s_getR 49 hz fl_X12_135 sf51 rfl (by decide) dX12_braids_70 ?_
    refine s_iconst hz dX12_braids_73 ?_
    refine s_dup2 hz rfl rfl dX12_braids_74 ?_
    refine s_iald hz sf84 rfl (by decide) (by decide) dX12_braids_75 ?_
    refine s_aload_n 0 hz dX12_braids_76 rfl ?_
    refine s_iload_n 1 hz dX12_braids_77 rfl ?_
    refine s_iconst hz dX12_braids_78 ?_
    obtain ⟨r20, S21, hc21, h⟩ := zb_of h
    refine s_callV [aI a1, aI 0] [aI (S19 84 0), aI 0, aR 84] hz ml_X12_363 sv_yX12_addedAt (T_X12_addedAt ra1 rl_0 hW19 hc21) (by decide) rfl sf51 rfl rfl (Nat.le_of_ble_eq_true rfl) dX12_braids_79 (fun rr20 hW21 => ?_)
    refine s_iadd hz dX12_braids_82 ?_
    obtain ⟨x22, ex22, rx22, h⟩ := zl_ex h
    rw [← ex22]
    obtain ⟨S23, eS23, h⟩ := zs_ex h
    have hW23 : WR shF S23 := by rw [eS23]; exact hW21.up (i := 0) sf84 (v := x22) rx22
    refine s_iast hz sf84 rfl (by decide) (by decide) dX12_braids_83 ?_
    rw [← eS23]
    refine s_aload_n 0 hz dX12_braids_84 rfl ?_
    refine s_iload_n 1 hz dX12_braids_85 rfl ?_
    refine s_iconst hz dX12_braids_86 ?_
    refine s_iconst hz dX12_braids_87 ?_
    obtain ⟨r24, S25, hc25, h⟩ := zb_of h
    refine s_callVv [aI a1, aI 0, aI 0] [] hz ml_X12_366 sv_yX12_joinsIn (T_X12_joinsIn ra1 rl_0 rl_0 hW23 hc25) (by decide) rfl sf51 rfl rfl (Nat.le_of_ble_eq_true rfl) dX12_braids_88 (fun hW25 => ?_)
    refine s_iconst hz dX12_braids_91 ?_
    refine s_istore_n (l' := [(2, aI 1), (0, aR 51), (1, aI a1)]) hz hN dX12_braids_92 (by decide) rfl ?_
    refine s_pick (l' := [(0, aR 51), (1, aI a1), (2, aI 1)]) [1, 2, 0] rfl ?_
    exact TL_X12_braids_93 hz hN hF ra1 zBig rl_1 hW25 h
def J_X12_isEdge_43 (k4 : Int → Int → HS → zO2) (v1 : Int) (v3 : Int) (t0 : Int) (S : HS) : zO2 :=
  zl (v3 + 1) fun x4 =>
  k4 t0 x4 S
set_option maxHeartbeats 4000000 in
set_option maxRecDepth 20000 in
theorem TJ_X12_isEdge_43 {k4 : Int → Int → HS → zO2} {v1 : Int} {v3 : Int} {t0 : Int} {S : HS} {r : Int} {S' : HS} {z : Zt} (hz : zO z cX12_isEdge RX12 3 shF) (hN : zN z 4) (hF : zFi z shF .boolean r S') (hk4 : ∀ (w2 w3 : Int) (S : HS), rng w2 → rng w3 → WR shF S → k4 w2 w3 S = some (r, S') → zA z 4 [(0, aR 51), (1, aI v1), (2, aI w2), (3, aI w3)] [] S) (rv1 : rng v1) (rv3 : rng v3) (rt0 : rng t0) (hW : WR shF S) (h : J_X12_isEdge_43 k4 v1 v3 t0 S = some (r, S')) : zA z 43 [(0, aR 51), (1, aI v1), (3, aI v3)] [aI t0] S := by
  unfold J_X12_isEdge_43 at h
  refine s_istore_n (l' := [(2, aI t0), (0, aR 51), (1, aI v1), (3, aI v3)]) hz hN dX12_isEdge_43 (by decide) rfl ?_
  obtain ⟨x4, ex4, rx4, h⟩ := zl_ex h
  refine s_iinc (k0 := 3) (y := x4) (l' := [(3, aI x4), (2, aI t0), (0, aR 51), (1, aI v1)]) hz hN dX12_isEdge_44 rfl ex4.symm (by decide) rfl ?_
  refine s_goto 4 hz dX12_isEdge_47 rfl ?_
  refine s_pick (l' := [(0, aR 51), (1, aI v1), (2, aI t0), (3, aI x4)]) [2, 3, 1, 0] rfl ?_
  exact hk4 _ _ _ rt0 rx4 hW h
def J_X12_isEdge_38 (k4 : Int → Int → HS → zO2) (v1 : Int) (v3 : Int) (S : HS) : zO2 :=
  J_X12_isEdge_43 k4 v1 v3 1 S
set_option maxHeartbeats 4000000 in
set_option maxRecDepth 20000 in
theorem TJ_X12_isEdge_38 {k4 : Int → Int → HS → zO2} {v1 : Int} {v3 : Int} {S : HS} {r : Int} {S' : HS} {z : Zt} (hz : zO z cX12_isEdge RX12 3 shF) (hN : zN z 4) (hF : zFi z shF .boolean r S') (hk4 : ∀ (w2 w3 : Int) (S : HS), rng w2 → rng w3 → WR shF S → k4 w2 w3 S = some (r, S') → zA z 4 [(0, aR 51), (1, aI v1), (2, aI w2), (3, aI w3)] [] S) (rv1 : rng v1) (rv3 : rng v3) (hW : WR shF S) (h : J_X12_isEdge_38 k4 v1 v3 S = some (r, S')) : zA z 38 [(0, aR 51), (1, aI v1), (3, aI v3)] [] S := by
  unfold J_X12_isEdge_38 at h
  refine s_iconst hz dX12_isEdge_38 ?_
  refine s_goto 43 hz dX12_isEdge_39 rfl ?_
  exact TJ_X12_isEdge_43 hz hN hF hk4 rv1 rv3 rl_1 hW h
def L_X12_isEdge_4 (p1 : Int) : Nat → Int → Int → HS → zO2
  | 0, _, _, _ => none
  | n + 1, v2, v3, S => 
    if 4 ≤ v3 then (
      zg (v2 = 0 ∨ v2 = 1) <|
      some (v2, S))
    else (
      if v2 = 0 then (
        zg ((0 : Int) ≤ p1 ∧ (0 : Int) < 16) <|
        zb (M_X12_stepX v3 S) fun r6 S7 =>
        zg ((0 : Int) ≤ p1 ∧ (0 : Int) < 16) <|
        zb (M_X12_stepY v3 S7) fun r9 S10 =>
        zl ((p1 / 16) + r9) fun x11 =>
        zl ((p1 % 16) + r6) fun x12 =>
        zb (M_X12_isScalp x12 x11 S10) fun r13 S14 =>
        if r13 = 0 then (
          J_X12_isEdge_38 (L_X12_isEdge_4 p1 n) p1 v3 S14)
        else (
          J_X12_isEdge_43 (L_X12_isEdge_4 p1 n) p1 v3 0 S14))
      else (
        J_X12_isEdge_38 (L_X12_isEdge_4 p1 n) p1 v3 S))
set_option maxHeartbeats 4000000 in
set_option maxRecDepth 20000 in
theorem TL_X12_isEdge_4 {p1 : Int} {r : Int} {S' : HS} {z : Zt} (hz : zO z cX12_isEdge RX12 3 shF) (hN : zN z 4) (hF : zFi z shF .boolean r S') (rp1 : rng p1) : ∀ (n : Nat) {v2 : Int} {v3 : Int} {S : HS}, rng v2 → rng v3 → WR shF S → L_X12_isEdge_4 p1 n v2 v3 S = some (r, S') → zA z 4 [(0, aR 51), (1, aI p1), (2, aI v2), (3, aI v3)] [] S := by
  intro n
  induction n with
  | zero =>
    intro _ _ _ _ _ _ h
    cases h
  | succ n ih =>
    intro v2 v3 S rv2 rv3 hW h
    rw [L_X12_isEdge_4.eq_2] at h
    refine s_iload_n 3 hz dX12_isEdge_4 rfl ?_
    refine s_iconst hz dX12_isEdge_5 ?_
    refine s_icmp_ge 50 hz rv3 rl_4 dX12_isEdge_6 rfl (fun c1 => ?_) (fun c1 => ?_)
    · have h := zif_t c1 h
      refine s_iload_n 2 hz dX12_isEdge_50 rfl ?_
      obtain ⟨g2, h⟩ := zg_of h
      exact s_zret h hz hF g2 hW dX12_isEdge_51
    · have h := zif_f c1 h
      refine s_iload_n 2 hz dX12_isEdge_9 rfl ?_
      refine s_if_ne 38 hz rv2 dX12_isEdge_10 rfl (fun c3 => ?_) (fun c3 => ?_)
      · have h := zif_f c3 h
        refine s_pick (l' := [(0, aR 51), (1, aI p1), (3, aI v3)]) [0, 1, 3] rfl ?_
        exact TJ_X12_isEdge_38 hz hN hF (fun _ _ _ => ih) rp1 rv3 hW h
      · have h := zif_t c3 h
        refine s_aload_n 0 hz dX12_isEdge_13 rfl ?_
        refine s_iload_n 1 hz dX12_isEdge_14 rfl ?_
        refine s_bipush hz dX12_isEdge_15 bp_16 ?_
        obtain ⟨g5, h⟩ := zg_of h
        refine s_irem hz g5.1 g5.2 rp1 rl_16 dX12_isEdge_17 ?_
        refine s_iload_n 3 hz dX12_isEdge_18 rfl ?_
        obtain ⟨r6, S7, hc7, h⟩ := zb_of h
        refine s_callS [aI v3] [aI (p1 % 16), aR 51] hz ml_X12_333 ss_yX12_stepX (T_X12_stepX rv3 hW hc7) (by decide) rfl rfl (Nat.le_of_ble_eq_true rfl) dX12_isEdge_19 (fun rr6 hW7 => ?_)
        refine s_iadd hz dX12_isEdge_22 ?_
        refine s_iload_n 1 hz dX12_isEdge_23 rfl ?_
        refine s_bipush hz dX12_isEdge_24 bp_16 ?_
        obtain ⟨g8, h⟩ := zg_of h
        refine s_idiv hz g8.1 g8.2 rp1 rl_16 dX12_isEdge_26 ?_
        refine s_iload_n 3 hz dX12_isEdge_27 rfl ?_
        obtain ⟨r9, S10, hc10, h⟩ := zb_of h
        refine s_callS [aI v3] [aI (p1 / 16), aI ((p1 % 16) + r6), aR 51] hz ml_X12_336 ss_yX12_stepY (T_X12_stepY rv3 hW7 hc10) (by decide) rfl rfl (Nat.le_of_ble_eq_true rfl) dX12_isEdge_28 (fun rr9 hW10 => ?_)
        refine s_iadd hz dX12_isEdge_31 ?_
        obtain ⟨x11, ex11, rx11, h⟩ := zl_ex h
        rw [← ex11]
        obtain ⟨x12, ex12, rx12, h⟩ := zl_ex h
        rw [← ex12]
        obtain ⟨r13, S14, hc14, h⟩ := zb_of h
        refine s_callV [aI x12, aI x11] [] hz ml_X12_314 sv_yX12_isScalp (T_X12_isScalp rx12 rx11 hW10 hc14) (by decide) rfl sf51 rfl rfl (Nat.le_of_ble_eq_true rfl) dX12_isEdge_32 (fun rr13 hW14 => ?_)
        refine s_if_ne 42 hz rr13 dX12_isEdge_35 rfl (fun c15 => ?_) (fun c15 => ?_)
        · have h := zif_f c15 h
          refine s_iconst hz dX12_isEdge_42 ?_
          refine s_pick (l' := [(0, aR 51), (1, aI p1), (3, aI v3)]) [0, 1, 3] rfl ?_
          exact TJ_X12_isEdge_43 hz hN hF (fun _ _ _ => ih) rp1 rv3 rl_0 hW14 h
        · have h := zif_t c15 h
          refine s_pick (l' := [(0, aR 51), (1, aI p1), (3, aI v3)]) [0, 1, 3] rfl ?_
          exact TJ_X12_isEdge_38 hz hN hF (fun _ _ _ => ih) rp1 rv3 hW14 h
def M_X12_isEdge (a1 : Int) (S : HS) : zO2 :=
  L_X12_isEdge_4 a1 zBig 0 0 S
set_option maxHeartbeats 4000000 in
set_option maxRecDepth 20000 in
theorem T_X12_isEdge {a1 : Int} {S S' : HS} {r : Int} (ra1 : rng a1) (hW : WR shF S) (h : M_X12_isEdge a1 S = some (r, S')) : zR shF yX12_isEdge cX12_isEdge 4  .boolean 3 [aR 51, aI a1] S r S' := by
  refine zR_of (by decide +kernel) (Nat.le_of_ble_eq_true rfl) (fun z hz hN hF => ?_)
  have hz : zO z cX12_isEdge RX12 3 shF := hz
  show zA z 0 [(0, aR 51), (1, aI a1)] [] S
  unfold M_X12_isEdge at h
  refine s_iconst hz dX12_isEdge_0 ?_
  refine s_istore_n (l' := [(2, aI 0), (0, aR 51), (1, aI a1)]) hz hN dX12_isEdge_1 (by decide) rfl ?_
  refine s_iconst hz dX12_isEdge_2 ?_
  refine s_istore_n (l' := [(3, aI 0), (2, aI 0), (0, aR 51), (1, aI a1)]) hz hN dX12_isEdge_3 (by decide) rfl ?_
  refine s_pick (l' := [(0, aR 51), (1, aI a1), (2, aI 0), (3, aI 0)]) [2, 3, 1, 0] rfl ?_
  exact TL_X12_isEdge_4 hz hN hF ra1 zBig rl_0 rl_0 hW h
def J_X12_most_44 (k11 : Int → Int → HS → zO2) (v1 : Int) (v3 : Int) (t0 : Int) (S : HS) : zO2 :=
  zl (v3 + 1) fun x5 =>
  k11 t0 x5 S
set_option maxHeartbeats 4000000 in
set_option maxRecDepth 20000 in
theorem TJ_X12_most_44 {k11 : Int → Int → HS → zO2} {v1 : Int} {v3 : Int} {t0 : Int} {S : HS} {r : Int} {S' : HS} {z : Zt} (hz : zO z cX12_most RX12 1 shF) (hN : zN z 4) (hF : zFi z shF .int r S') (hk11 : ∀ (w2 w3 : Int) (S : HS), rng w2 → rng w3 → WR shF S → k11 w2 w3 S = some (r, S') → zA z 11 [(0, aR 51), (1, aI v1), (2, aI w2), (3, aI w3)] [] S) (rv1 : rng v1) (rv3 : rng v3) (rt0 : rng t0) (hW : WR shF S) (h : J_X12_most_44 k11 v1 v3 t0 S = some (r, S')) : zA z 44 [(0, aR 51), (1, aI v1), (3, aI v3)] [aI t0] S := by
  unfold J_X12_most_44 at h
  refine s_istore_n (l' := [(2, aI t0), (0, aR 51), (1, aI v1), (3, aI v3)]) hz hN dX12_most_44 (by decide) rfl ?_
  obtain ⟨x5, ex5, rx5, h⟩ := zl_ex h
  refine s_iinc (k0 := 3) (y := x5) (l' := [(3, aI x5), (2, aI t0), (0, aR 51), (1, aI v1)]) hz hN dX12_most_45 rfl ex5.symm (by decide) rfl ?_
  refine s_goto 11 hz dX12_most_48 rfl ?_
  refine s_pick (l' := [(0, aR 51), (1, aI v1), (2, aI t0), (3, aI x5)]) [2, 3, 1, 0] rfl ?_
  exact hk11 _ _ _ rt0 rx5 hW h
def L_X12_most_11 (p1 : Int) : Nat → Int → Int → HS → zO2
  | 0, _, _, _ => none
  | n + 1, v2, v3, S => 
    if 3 ≤ v3 then (
      some (v2, S))
    else (
      zg ((0 : Int) ≤ (3 * p1) + v3 ∧ (3 * p1) + v3 < 576) <|
      if S 84 ((3 * p1) + v3) ≤ v2 then (
        J_X12_most_44 (L_X12_most_11 p1 n) p1 v3 v2 S)
      else (
        zg ((0 : Int) ≤ (3 * p1) + v3 ∧ (3 * p1) + v3 < 576) <|
        J_X12_most_44 (L_X12_most_11 p1 n) p1 v3 (S 84 ((3 * p1) + v3)) S))
set_option maxHeartbeats 4000000 in
set_option maxRecDepth 20000 in
theorem TL_X12_most_11 {p1 : Int} {r : Int} {S' : HS} {z : Zt} (hz : zO z cX12_most RX12 1 shF) (hN : zN z 4) (hF : zFi z shF .int r S') (rp1 : rng p1) : ∀ (n : Nat) {v2 : Int} {v3 : Int} {S : HS}, rng v2 → rng v3 → WR shF S → L_X12_most_11 p1 n v2 v3 S = some (r, S') → zA z 11 [(0, aR 51), (1, aI p1), (2, aI v2), (3, aI v3)] [] S := by
  intro n
  induction n with
  | zero =>
    intro _ _ _ _ _ _ h
    cases h
  | succ n ih =>
    intro v2 v3 S rv2 rv3 hW h
    rw [L_X12_most_11.eq_2] at h
    refine s_iload_n 3 hz dX12_most_11 rfl ?_
    refine s_iconst hz dX12_most_12 ?_
    refine s_icmp_ge 51 hz rv3 rl_3 dX12_most_13 rfl (fun c2 => ?_) (fun c2 => ?_)
    · have h := zif_t c2 h
      refine s_iload_n 2 hz dX12_most_51 rfl ?_
      exact s_iret h hz hF rv2 hW dX12_most_52
    · have h := zif_f c2 h
      refine s_aload_n 0 hz dX12_most_16 rfl ?_
      refine s_getR 49 hz fl_X12_135 sf51 rfl (by decide) dX12_most_17 ?_
      refine s_iconst hz dX12_most_20 ?_
      refine s_iload_n 1 hz dX12_most_21 rfl ?_
      refine s_imul hz dX12_most_22 ?_
      refine s_iload_n 3 hz dX12_most_23 rfl ?_
      refine s_iadd hz dX12_most_24 ?_
      obtain ⟨g3, h⟩ := zg_of h
      refine s_iald hz sf84 rfl (by decide) g3 dX12_most_25 ?_
      refine s_iload_n 2 hz dX12_most_26 rfl ?_
      refine s_icmp_le 43 hz (hW 84 _ sf84 ((3 * p1) + v3)) rv2 dX12_most_27 rfl (fun c4 => ?_) (fun c4 => ?_)
      · have h := zif_t c4 h
        refine s_iload_n 2 hz dX12_most_43 rfl ?_
        refine s_pick (l' := [(0, aR 51), (1, aI p1), (3, aI v3)]) [0, 1, 3] rfl ?_
        exact TJ_X12_most_44 hz hN hF (fun _ _ _ => ih) rp1 rv3 rv2 hW h
      · have h := zif_f c4 h
        refine s_aload_n 0 hz dX12_most_30 rfl ?_
        refine s_getR 49 hz fl_X12_135 sf51 rfl (by decide) dX12_most_31 ?_
        refine s_iconst hz dX12_most_34 ?_
        refine s_iload_n 1 hz dX12_most_35 rfl ?_
        refine s_imul hz dX12_most_36 ?_
        refine s_iload_n 3 hz dX12_most_37 rfl ?_
        refine s_iadd hz dX12_most_38 ?_
        obtain ⟨g6, h⟩ := zg_of h
        refine s_iald hz sf84 rfl (by decide) g6 dX12_most_39 ?_
        refine s_goto 44 hz dX12_most_40 rfl ?_
        refine s_pick (l' := [(0, aR 51), (1, aI p1), (3, aI v3)]) [0, 1, 3] rfl ?_
        exact TJ_X12_most_44 hz hN hF (fun _ _ _ => ih) rp1 rv3 (hW 84 _ sf84 ((3 * p1) + v3)) hW h
def M_X12_most (a1 : Int) (S : HS) : zO2 :=
  zg ((0 : Int) ≤ 3 * a1 ∧ 3 * a1 < 576) <|
  L_X12_most_11 a1 zBig (S 84 (3 * a1)) 1 S
set_option maxHeartbeats 4000000 in
set_option maxRecDepth 20000 in
theorem T_X12_most {a1 : Int} {S S' : HS} {r : Int} (ra1 : rng a1) (hW : WR shF S) (h : M_X12_most a1 S = some (r, S')) : zR shF yX12_most cX12_most 4  .int 1 [aR 51, aI a1] S r S' := by
  refine zR_of (by decide +kernel) (Nat.le_of_ble_eq_true rfl) (fun z hz hN hF => ?_)
  have hz : zO z cX12_most RX12 1 shF := hz
  show zA z 0 [(0, aR 51), (1, aI a1)] [] S
  unfold M_X12_most at h
  refine s_aload_n 0 hz dX12_most_0 rfl ?_
  refine s_getR 49 hz fl_X12_135 sf51 rfl (by decide) dX12_most_1 ?_
  refine s_iconst hz dX12_most_4 ?_
  refine s_iload_n 1 hz dX12_most_5 rfl ?_
  refine s_imul hz dX12_most_6 ?_
  obtain ⟨g1, h⟩ := zg_of h
  refine s_iald hz sf84 rfl (by decide) g1 dX12_most_7 ?_
  refine s_istore_n (l' := [(2, aI (S 84 (3 * a1))), (0, aR 51), (1, aI a1)]) hz hN dX12_most_8 (by decide) rfl ?_
  refine s_iconst hz dX12_most_9 ?_
  refine s_istore_n (l' := [(3, aI 1), (2, aI (S 84 (3 * a1))), (0, aR 51), (1, aI a1)]) hz hN dX12_most_10 (by decide) rfl ?_
  refine s_pick (l' := [(0, aR 51), (1, aI a1), (2, aI (S 84 (3 * a1))), (3, aI 1)]) [2, 3, 1, 0] rfl ?_
  exact TL_X12_most_11 hz hN hF ra1 zBig (hW 84 _ sf84 (3 * a1)) rl_1 hW h
def L_X12_fewest_11 (p1 : Int) : Nat → Int → Int → HS → zO2
  | 0, _, _, _ => none
  | n + 1, v2, v3, S => 
    if 3 ≤ v3 then (
      some (v2, S))
    else (
      zg ((0 : Int) ≤ (3 * p1) + v3 ∧ (3 * p1) + v3 < 576) <|
      zb (M_X12_least v2 (S 84 ((3 * p1) + v3)) S) fun r4 S5 =>
      zl (v3 + 1) fun x6 =>
      L_X12_fewest_11 p1 n r4 x6 S5)
set_option maxHeartbeats 4000000 in
set_option maxRecDepth 20000 in
theorem TL_X12_fewest_11 {p1 : Int} {r : Int} {S' : HS} {z : Zt} (hz : zO z cX12_fewest RX12 2 shF) (hN : zN z 4) (hF : zFi z shF .int r S') (rp1 : rng p1) : ∀ (n : Nat) {v2 : Int} {v3 : Int} {S : HS}, rng v2 → rng v3 → WR shF S → L_X12_fewest_11 p1 n v2 v3 S = some (r, S') → zA z 11 [(0, aR 51), (1, aI p1), (2, aI v2), (3, aI v3)] [] S := by
  intro n
  induction n with
  | zero =>
    intro _ _ _ _ _ _ h
    cases h
  | succ n ih =>
    intro v2 v3 S rv2 rv3 hW h
    rw [L_X12_fewest_11.eq_2] at h
    refine s_iload_n 3 hz dX12_fewest_11 rfl ?_
    refine s_iconst hz dX12_fewest_12 ?_
    refine s_icmp_ge 37 hz rv3 rl_3 dX12_fewest_13 rfl (fun c2 => ?_) (fun c2 => ?_)
    · have h := zif_t c2 h
      refine s_iload_n 2 hz dX12_fewest_37 rfl ?_
      exact s_iret h hz hF rv2 hW dX12_fewest_38
    · have h := zif_f c2 h
      refine s_iload_n 2 hz dX12_fewest_16 rfl ?_
      refine s_aload_n 0 hz dX12_fewest_17 rfl ?_
      refine s_getR 49 hz fl_X12_135 sf51 rfl (by decide) dX12_fewest_18 ?_
      refine s_iconst hz dX12_fewest_21 ?_
      refine s_iload_n 1 hz dX12_fewest_22 rfl ?_
      refine s_imul hz dX12_fewest_23 ?_
      refine s_iload_n 3 hz dX12_fewest_24 rfl ?_
      refine s_iadd hz dX12_fewest_25 ?_
      obtain ⟨g3, h⟩ := zg_of h
      refine s_iald hz sf84 rfl (by decide) g3 dX12_fewest_26 ?_
      obtain ⟨r4, S5, hc5, h⟩ := zb_of h
      refine s_callS [aI v2, aI (S 84 ((3 * p1) + v3))] [] hz ml_X12_289 ss_yX12_least (T_X12_least rv2 (hW 84 _ sf84 ((3 * p1) + v3)) hW hc5) (by decide) rfl rfl (Nat.le_of_ble_eq_true rfl) dX12_fewest_27 (fun rr4 hW5 => ?_)
      refine s_istore_n (l' := [(2, aI r4), (0, aR 51), (1, aI p1), (3, aI v3)]) hz hN dX12_fewest_30 (by decide) rfl ?_
      obtain ⟨x6, ex6, rx6, h⟩ := zl_ex h
      refine s_iinc (k0 := 3) (y := x6) (l' := [(3, aI x6), (2, aI r4), (0, aR 51), (1, aI p1)]) hz hN dX12_fewest_31 rfl ex6.symm (by decide) rfl ?_
      refine s_goto 11 hz dX12_fewest_34 rfl ?_
      refine s_pick (l' := [(0, aR 51), (1, aI p1), (2, aI r4), (3, aI x6)]) [2, 3, 1, 0] rfl ?_
      exact ih rr4 rx6 hW5 h
def M_X12_fewest (a1 : Int) (S : HS) : zO2 :=
  zg ((0 : Int) ≤ 3 * a1 ∧ 3 * a1 < 576) <|
  L_X12_fewest_11 a1 zBig (S 84 (3 * a1)) 1 S
set_option maxHeartbeats 4000000 in
set_option maxRecDepth 20000 in
theorem T_X12_fewest {a1 : Int} {S S' : HS} {r : Int} (ra1 : rng a1) (hW : WR shF S) (h : M_X12_fewest a1 S = some (r, S')) : zR shF yX12_fewest cX12_fewest 4  .int 2 [aR 51, aI a1] S r S' := by
  refine zR_of (by decide +kernel) (Nat.le_of_ble_eq_true rfl) (fun z hz hN hF => ?_)
  have hz : zO z cX12_fewest RX12 2 shF := hz
  show zA z 0 [(0, aR 51), (1, aI a1)] [] S
  unfold M_X12_fewest at h
  refine s_aload_n 0 hz dX12_fewest_0 rfl ?_
  refine s_getR 49 hz fl_X12_135 sf51 rfl (by decide) dX12_fewest_1 ?_
  refine s_iconst hz dX12_fewest_4 ?_
  refine s_iload_n 1 hz dX12_fewest_5 rfl ?_
  refine s_imul hz dX12_fewest_6 ?_
  obtain ⟨g1, h⟩ := zg_of h
  refine s_iald hz sf84 rfl (by decide) g1 dX12_fewest_7 ?_
  refine s_istore_n (l' := [(2, aI (S 84 (3 * a1))), (0, aR 51), (1, aI a1)]) hz hN dX12_fewest_8 (by decide) rfl ?_
  refine s_iconst hz dX12_fewest_9 ?_
  refine s_istore_n (l' := [(3, aI 1), (2, aI (S 84 (3 * a1))), (0, aR 51), (1, aI a1)]) hz hN dX12_fewest_10 (by decide) rfl ?_
  refine s_pick (l' := [(0, aR 51), (1, aI a1), (2, aI (S 84 (3 * a1))), (3, aI 1)]) [2, 3, 1, 0] rfl ?_
  exact TL_X12_fewest_11 hz hN hF ra1 zBig (hW 84 _ sf84 (3 * a1)) rl_1 hW h
def J_X12_pullAt_35 (t0 : Int) (t1 : Int) (S : HS) : zO2 :=
  zl (t1 * t0) fun x10 =>
  some (x10, S)
set_option maxHeartbeats 4000000 in
set_option maxRecDepth 20000 in
theorem TJ_X12_pullAt_35 {t0 : Int} {t1 : Int} {S : HS} {r : Int} {S' : HS} {z : Zt} (hz : zO z cX12_pullAt RX12 4 shF) (hN : zN z 3) (hF : zFi z shF .int r S') (rt0 : rng t0) (rt1 : rng t1) (hW : WR shF S) (h : J_X12_pullAt_35 t0 t1 S = some (r, S')) : zA z 35 [] [aI t0, aI t1] S := by
  unfold J_X12_pullAt_35 at h
  refine s_imul hz dX12_pullAt_35 ?_
  obtain ⟨x10, ex10, rx10, h⟩ := zl_ex h
  rw [← ex10]
  exact s_iret h hz hF rx10 hW dX12_pullAt_36
def M_X12_pullAt (a1 : Int) (a2 : Int) (S : HS) : zO2 :=
  zb (M_X12_most a2 S) fun r1 S2 =>
  zb (M_X12_fewest a2 S2) fun r3 S4 =>
  zg ((0 : Int) ≤ (192 * a1) + a2 ∧ (192 * a1) + a2 < 4608) <|
  zb (M_X12_isEdge (S4 70 ((192 * a1) + a2)) S4) fun r6 S7 =>
  if r6 = 0 then (
    zl (r1 - r3) fun x9 =>
    J_X12_pullAt_35 1 x9 S7)
  else (
    zl (r1 - r3) fun x11 =>
    J_X12_pullAt_35 2 x11 S7)
set_option maxHeartbeats 4000000 in
set_option maxRecDepth 20000 in
theorem T_X12_pullAt {a1 : Int} {a2 : Int} {S S' : HS} {r : Int} (ra1 : rng a1) (ra2 : rng a2) (hW : WR shF S) (h : M_X12_pullAt a1 a2 S = some (r, S')) : zR shF yX12_pullAt cX12_pullAt 3  .int 4 [aR 51, aI a1, aI a2] S r S' := by
  refine zR_of (by decide +kernel) (Nat.le_of_ble_eq_true rfl) (fun z hz hN hF => ?_)
  have hz : zO z cX12_pullAt RX12 4 shF := hz
  show zA z 0 [(0, aR 51), (1, aI a1), (2, aI a2)] [] S
  unfold M_X12_pullAt at h
  refine s_aload_n 0 hz dX12_pullAt_0 rfl ?_
  refine s_iload_n 2 hz dX12_pullAt_1 rfl ?_
  obtain ⟨r1, S2, hc2, h⟩ := zb_of h
  refine s_callV [aI a2] [] hz ml_X12_374 sv_yX12_most (T_X12_most ra2 hW hc2) (by decide) rfl sf51 rfl rfl (Nat.le_of_ble_eq_true rfl) dX12_pullAt_2 (fun rr1 hW2 => ?_)
  refine s_aload_n 0 hz dX12_pullAt_5 rfl ?_
  refine s_iload_n 2 hz dX12_pullAt_6 rfl ?_
  obtain ⟨r3, S4, hc4, h⟩ := zb_of h
  refine s_callV [aI a2] [aI r1] hz ml_X12_377 sv_yX12_fewest (T_X12_fewest ra2 hW2 hc4) (by decide) rfl sf51 rfl rfl (Nat.le_of_ble_eq_true rfl) dX12_pullAt_7 (fun rr3 hW4 => ?_)
  refine s_isub hz dX12_pullAt_10 ?_
  refine s_aload_n 0 hz dX12_pullAt_11 rfl ?_
  refine s_aload_n 0 hz dX12_pullAt_12 rfl ?_
  refine s_getR 31 hz fl_X12_93 sf51 rfl (by decide) dX12_pullAt_13 ?_
  refine s_sipush hz dX12_pullAt_16 sp_192 ?_
  refine s_iload_n 1 hz dX12_pullAt_19 rfl ?_
  refine s_imul hz dX12_pullAt_20 ?_
  refine s_iload_n 2 hz dX12_pullAt_21 rfl ?_
  refine s_iadd hz dX12_pullAt_22 ?_
  obtain ⟨g5, h⟩ := zg_of h
  refine s_iald hz sf70 rfl (by decide) g5 dX12_pullAt_23 ?_
  obtain ⟨r6, S7, hc7, h⟩ := zb_of h
  refine s_callV [aI (S4 70 ((192 * a1) + a2))] [aI (r1 - r3)] hz ml_X12_380 sv_yX12_isEdge (T_X12_isEdge (hW4 70 _ sf70 ((192 * a1) + a2)) hW4 hc7) (by decide) rfl sf51 rfl rfl (Nat.le_of_ble_eq_true rfl) dX12_pullAt_24 (fun rr6 hW7 => ?_)
  refine s_if_eq 34 hz rr6 dX12_pullAt_27 rfl (fun c8 => ?_) (fun c8 => ?_)
  · have h := zif_t c8 h
    refine s_iconst hz dX12_pullAt_34 ?_
    obtain ⟨x9, ex9, rx9, h⟩ := zl_ex h
    rw [← ex9]
    refine s_pick (l' := []) [] rfl ?_
    exact TJ_X12_pullAt_35 hz hN hF rl_1 rx9 hW7 h
  · have h := zif_f c8 h
    refine s_iconst hz dX12_pullAt_30 ?_
    refine s_goto 35 hz dX12_pullAt_31 rfl ?_
    obtain ⟨x11, ex11, rx11, h⟩ := zl_ex h
    rw [← ex11]
    refine s_pick (l' := []) [] rfl ?_
    exact TJ_X12_pullAt_35 hz hN hF rl_2 rx11 hW7 h
def J_X12_strand_24 (v1 : Int) (v2 : Int) (v3 : Int) (t0 : Int) (S : HS) : zO2 :=
  zs (up S 51 0 t0) fun S4 =>
  if S4 51 0 ≤ 0 then (
    zb (M_X12_braids v1 S4) fun _ S7 =>
    if 3 ≤ v3 then (
      if v3 = 3 then (
        zg ((0 : Int) ≤ v2 ∧ v2 < 192) <|
        some (S7 83 v2, S7))
      else (
        if v3 = 4 then (
          zb (M_X12_pullAt v1 v2 S7) fun r15 S16 =>
          some (r15, S16))
        else (
          zg ((0 : Int) ≤ (192 * v1) + v2 ∧ (192 * v1) + v2 < 4608) <|
          zb (M_X12_isEdge (S7 70 ((192 * v1) + v2)) S7) fun r12 S13 =>
          if r12 = 0 then (
            some (0, S13))
          else (
            some (1, S13)))))
    else (
      zg ((0 : Int) ≤ (3 * v2) + v3 ∧ (3 * v2) + v3 < 576) <|
      some (S7 84 ((3 * v2) + v3), S7)))
  else (
    some (0, S4))
set_option maxHeartbeats 4000000 in
set_option maxRecDepth 20000 in
theorem TJ_X12_strand_24 {v1 : Int} {v2 : Int} {v3 : Int} {t0 : Int} {S : HS} {r : Int} {S' : HS} {z : Zt} (hz : zO z cX12_strand RX12 8 shF) (hN : zN z 4) (hF : zFi z shF .int r S') (rv1 : rng v1) (rv2 : rng v2) (rv3 : rng v3) (rt0 : rng t0) (hW : WR shF S) (h : J_X12_strand_24 v1 v2 v3 t0 S = some (r, S')) : zA z 24 [(0, aR 51), (1, aI v1), (2, aI v2), (3, aI v3)] [aI t0, aR 51] S := by
  unfold J_X12_strand_24 at h
  obtain ⟨S4, eS4, h⟩ := zs_ex h
  have hW4 : WR shF S4 := by rw [eS4]; exact hW.up (i := 0) sf51 (v := t0) rt0
  refine s_putI (kz := 0) 0 hz fp_X12_1 sf51 rfl rfl dX12_strand_24 ?_
  rw [← eS4]
  refine s_aload_n 0 hz dX12_strand_27 rfl ?_
  refine s_getI (kz := 0) 0 hz fl_X12_1 sf51 rfl rfl dX12_strand_28 ?_
  refine s_if_le 36 hz (hW4 51 _ sf51 0) dX12_strand_31 rfl (fun c5 => ?_) (fun c5 => ?_)
  · have h := zif_t c5 h
    refine s_aload_n 0 hz dX12_strand_36 rfl ?_
    refine s_iload_n 1 hz dX12_strand_37 rfl ?_
    obtain ⟨r6, S7, hc7, h⟩ := zb_of h
    refine s_callVv [aI v1] [] hz ml_X12_383 sv_yX12_braids (T_X12_braids rv1 hW4 hc7) (by decide) rfl sf51 rfl rfl (Nat.le_of_ble_eq_true rfl) dX12_strand_38 (fun hW7 => ?_)
    refine s_iload_n 3 hz dX12_strand_41 rfl ?_
    refine s_iconst hz dX12_strand_42 ?_
    refine s_icmp_ge 59 hz rv3 rl_3 dX12_strand_43 rfl (fun c8 => ?_) (fun c8 => ?_)
    · have h := zif_t c8 h
      refine s_iload_n 3 hz dX12_strand_59 rfl ?_
      refine s_iconst hz dX12_strand_60 ?_
      refine s_icmp_ne 73 hz rv3 rl_3 dX12_strand_61 rfl (fun c9 => ?_) (fun c9 => ?_)
      · have h := zif_f c9 h
        refine s_iload_n 3 hz dX12_strand_73 rfl ?_
        refine s_iconst hz dX12_strand_74 ?_
        refine s_icmp_ne 87 hz rv3 rl_4 dX12_strand_75 rfl (fun c10 => ?_) (fun c10 => ?_)
        · have h := zif_f c10 h
          refine s_aload_n 0 hz dX12_strand_87 rfl ?_
          refine s_aload_n 0 hz dX12_strand_88 rfl ?_
          refine s_getR 31 hz fl_X12_93 sf51 rfl (by decide) dX12_strand_89 ?_
          refine s_sipush hz dX12_strand_92 sp_192 ?_
          refine s_iload_n 1 hz dX12_strand_95 rfl ?_
          refine s_imul hz dX12_strand_96 ?_
          refine s_iload_n 2 hz dX12_strand_97 rfl ?_
          refine s_iadd hz dX12_strand_98 ?_
          obtain ⟨g11, h⟩ := zg_of h
          refine s_iald hz sf70 rfl (by decide) g11 dX12_strand_99 ?_
          obtain ⟨r12, S13, hc13, h⟩ := zb_of h
          refine s_callV [aI (S7 70 ((192 * v1) + v2))] [] hz ml_X12_380 sv_yX12_isEdge (T_X12_isEdge (hW7 70 _ sf70 ((192 * v1) + v2)) hW7 hc13) (by decide) rfl sf51 rfl rfl (Nat.le_of_ble_eq_true rfl) dX12_strand_100 (fun rr12 hW13 => ?_)
          refine s_if_eq 110 hz rr12 dX12_strand_103 rfl (fun c14 => ?_) (fun c14 => ?_)
          · have h := zif_t c14 h
            refine s_iconst hz dX12_strand_110 ?_
            exact s_iret h hz hF rl_0 hW13 dX12_strand_111
          · have h := zif_f c14 h
            refine s_iconst hz dX12_strand_106 ?_
            refine s_goto 111 hz dX12_strand_107 rfl ?_
            exact s_iret h hz hF rl_1 hW13 dX12_strand_111
        · have h := zif_t c10 h
          refine s_aload_n 0 hz dX12_strand_78 rfl ?_
          refine s_iload_n 1 hz dX12_strand_79 rfl ?_
          refine s_iload_n 2 hz dX12_strand_80 rfl ?_
          obtain ⟨r15, S16, hc16, h⟩ := zb_of h
          refine s_callV [aI v1, aI v2] [] hz ml_X12_386 sv_yX12_pullAt (T_X12_pullAt rv1 rv2 hW7 hc16) (by decide) rfl sf51 rfl rfl (Nat.le_of_ble_eq_true rfl) dX12_strand_81 (fun rr15 hW16 => ?_)
          refine s_goto 111 hz dX12_strand_84 rfl ?_
          exact s_iret h hz hF rr15 hW16 dX12_strand_111
      · have h := zif_t c9 h
        refine s_aload_n 0 hz dX12_strand_64 rfl ?_
        refine s_getR 48 hz fl_X12_132 sf51 rfl (by decide) dX12_strand_65 ?_
        refine s_iload_n 2 hz dX12_strand_68 rfl ?_
        obtain ⟨g17, h⟩ := zg_of h
        refine s_iald hz sf83 rfl (by decide) g17 dX12_strand_69 ?_
        refine s_goto 111 hz dX12_strand_70 rfl ?_
        exact s_iret h hz hF (hW7 83 _ sf83 v2) hW7 dX12_strand_111
    · have h := zif_f c8 h
      refine s_aload_n 0 hz dX12_strand_46 rfl ?_
      refine s_getR 49 hz fl_X12_135 sf51 rfl (by decide) dX12_strand_47 ?_
      refine s_iconst hz dX12_strand_50 ?_
      refine s_iload_n 2 hz dX12_strand_51 rfl ?_
      refine s_imul hz dX12_strand_52 ?_
      refine s_iload_n 3 hz dX12_strand_53 rfl ?_
      refine s_iadd hz dX12_strand_54 ?_
      obtain ⟨g18, h⟩ := zg_of h
      refine s_iald hz sf84 rfl (by decide) g18 dX12_strand_55 ?_
      refine s_goto 111 hz dX12_strand_56 rfl ?_
      exact s_iret h hz hF (hW7 84 _ sf84 ((3 * v2) + v3)) hW7 dX12_strand_111
  · have h := zif_f c5 h
    refine s_iconst hz dX12_strand_34 ?_
    exact s_iret h hz hF rl_0 hW4 dX12_strand_35
def J_X12_strand_23 (v1 : Int) (v2 : Int) (v3 : Int) (S : HS) : zO2 :=
  J_X12_strand_24 v1 v2 v3 1 S
set_option maxHeartbeats 4000000 in
set_option maxRecDepth 20000 in
theorem TJ_X12_strand_23 {v1 : Int} {v2 : Int} {v3 : Int} {S : HS} {r : Int} {S' : HS} {z : Zt} (hz : zO z cX12_strand RX12 8 shF) (hN : zN z 4) (hF : zFi z shF .int r S') (rv1 : rng v1) (rv2 : rng v2) (rv3 : rng v3) (hW : WR shF S) (h : J_X12_strand_23 v1 v2 v3 S = some (r, S')) : zA z 23 [(0, aR 51), (1, aI v1), (2, aI v2), (3, aI v3)] [aR 51] S := by
  unfold J_X12_strand_23 at h
  refine s_iconst hz dX12_strand_23 ?_
  exact TJ_X12_strand_24 hz hN hF rv1 rv2 rv3 rl_1 hW h
def M_X12_strand (a1 : Int) (a2 : Int) (a3 : Int) (S : HS) : zO2 :=
  zb (M_X12_isStepOf a1 a2 S) fun r1 S2 =>
  if r1 = 0 then (
    J_X12_strand_23 a1 a2 a3 S2)
  else (
    if a3 < 0 then (
      J_X12_strand_23 a1 a2 a3 S2)
    else (
      if 5 < a3 then (
        J_X12_strand_23 a1 a2 a3 S2)
      else (
        J_X12_strand_24 a1 a2 a3 0 S2)))
set_option maxHeartbeats 4000000 in
set_option maxRecDepth 20000 in
theorem T_X12_strand {a1 : Int} {a2 : Int} {a3 : Int} {S S' : HS} {r : Int} (ra1 : rng a1) (ra2 : rng a2) (ra3 : rng a3) (hW : WR shF S) (h : M_X12_strand a1 a2 a3 S = some (r, S')) : zR shF yX12_strand cX12_strand 4  .int 8 [aR 51, aI a1, aI a2, aI a3] S r S' := by
  refine zR_of (by decide +kernel) (Nat.le_of_ble_eq_true rfl) (fun z hz hN hF => ?_)
  have hz : zO z cX12_strand RX12 8 shF := hz
  show zA z 0 [(0, aR 51), (1, aI a1), (2, aI a2), (3, aI a3)] [] S
  unfold M_X12_strand at h
  refine s_aload_n 0 hz dX12_strand_0 rfl ?_
  refine s_aload_n 0 hz dX12_strand_1 rfl ?_
  refine s_iload_n 1 hz dX12_strand_2 rfl ?_
  refine s_iload_n 2 hz dX12_strand_3 rfl ?_
  obtain ⟨r1, S2, hc2, h⟩ := zb_of h
  refine s_callV [aI a1, aI a2] [aR 51] hz ml_X12_354 sv_yX12_isStepOf (T_X12_isStepOf ra1 ra2 hW hc2) (by decide) rfl sf51 rfl rfl (Nat.le_of_ble_eq_true rfl) dX12_strand_4 (fun rr1 hW2 => ?_)
  refine s_if_eq 23 hz rr1 dX12_strand_7 rfl (fun c3 => ?_) (fun c3 => ?_)
  · have h := zif_t c3 h
    exact TJ_X12_strand_23 hz hN hF ra1 ra2 ra3 hW2 h
  · have h := zif_f c3 h
    refine s_iload_n 3 hz dX12_strand_10 rfl ?_
    refine s_if_lt 23 hz ra3 dX12_strand_11 rfl (fun c19 => ?_) (fun c19 => ?_)
    · have h := zif_t c19 h
      exact TJ_X12_strand_23 hz hN hF ra1 ra2 ra3 hW2 h
    · have h := zif_f c19 h
      refine s_iload_n 3 hz dX12_strand_14 rfl ?_
      refine s_iconst hz dX12_strand_15 ?_
      refine s_icmp_gt 23 hz ra3 rl_5 dX12_strand_16 rfl (fun c20 => ?_) (fun c20 => ?_)
      · have h := zif_t c20 h
        exact TJ_X12_strand_23 hz hN hF ra1 ra2 ra3 hW2 h
      · have h := zif_f c20 h
        refine s_iconst hz dX12_strand_19 ?_
        refine s_goto 24 hz dX12_strand_20 rfl ?_
        exact TJ_X12_strand_24 hz hN hF ra1 ra2 ra3 rl_0 hW2 h
def M_X12_isRow (a1 : Int) (S : HS) : zO2 :=
  if a1 < 0 then (
    some (0, S))
  else (
    if S 51 27 ≤ a1 then (
      some (0, S))
    else (
      some (1, S)))
set_option maxHeartbeats 4000000 in
set_option maxRecDepth 20000 in
theorem T_X12_isRow {a1 : Int} {S S' : HS} {r : Int} (ra1 : rng a1) (hW : WR shF S) (h : M_X12_isRow a1 S = some (r, S')) : zR shF yX12_isRow cX12_isRow 2  .boolean 1 [aR 51, aI a1] S r S' := by
  refine zR_of (by decide +kernel) (Nat.le_of_ble_eq_true rfl) (fun z hz hN hF => ?_)
  have hz : zO z cX12_isRow RX12 1 shF := hz
  show zA z 0 [(0, aR 51), (1, aI a1)] [] S
  unfold M_X12_isRow at h
  refine s_iload_n 1 hz dX12_isRow_0 rfl ?_
  refine s_if_lt 16 hz ra1 dX12_isRow_1 rfl (fun c1 => ?_) (fun c1 => ?_)
  · have h := zif_t c1 h
    refine s_iconst hz dX12_isRow_16 ?_
    exact s_zret h hz hF (by decide) hW dX12_isRow_17
  · have h := zif_f c1 h
    refine s_iload_n 1 hz dX12_isRow_4 rfl ?_
    refine s_aload_n 0 hz dX12_isRow_5 rfl ?_
    refine s_getI (kz := 27) 27 hz fl_X12_256 sf51 rfl rfl dX12_isRow_6 ?_
    refine s_icmp_ge 16 hz ra1 (hW 51 _ sf51 27) dX12_isRow_9 rfl (fun c2 => ?_) (fun c2 => ?_)
    · have h := zif_t c2 h
      refine s_iconst hz dX12_isRow_16 ?_
      exact s_zret h hz hF (by decide) hW dX12_isRow_17
    · have h := zif_f c2 h
      refine s_iconst hz dX12_isRow_12 ?_
      refine s_goto 17 hz dX12_isRow_13 rfl ?_
      exact s_zret h hz hF (by decide) hW dX12_isRow_17
def J_X12_pull_54 (k24 : Int → Int → HS → zO2) (v1 : Int) (v3 : Int) (t0 : Int) (S : HS) : zO2 :=
  zl (v3 + 1) fun x12 =>
  k24 t0 x12 S
set_option maxHeartbeats 4000000 in
set_option maxRecDepth 20000 in
theorem TJ_X12_pull_54 {k24 : Int → Int → HS → zO2} {v1 : Int} {v3 : Int} {t0 : Int} {S : HS} {r : Int} {S' : HS} {z : Zt} (hz : zO z cX12_pull RX12 8 shF) (hN : zN z 4) (hF : zFi z shF .int r S') (hk24 : ∀ (w2 w3 : Int) (S : HS), rng w2 → rng w3 → WR shF S → k24 w2 w3 S = some (r, S') → zA z 24 [(0, aR 51), (1, aI v1), (2, aI w2), (3, aI w3)] [] S) (rv1 : rng v1) (rv3 : rng v3) (rt0 : rng t0) (hW : WR shF S) (h : J_X12_pull_54 k24 v1 v3 t0 S = some (r, S')) : zA z 54 [(0, aR 51), (1, aI v1), (3, aI v3)] [aI t0] S := by
  unfold J_X12_pull_54 at h
  refine s_istore_n (l' := [(2, aI t0), (0, aR 51), (1, aI v1), (3, aI v3)]) hz hN dX12_pull_54 (by decide) rfl ?_
  obtain ⟨x12, ex12, rx12, h⟩ := zl_ex h
  refine s_iinc (k0 := 3) (y := x12) (l' := [(3, aI x12), (2, aI t0), (0, aR 51), (1, aI v1)]) hz hN dX12_pull_55 rfl ex12.symm (by decide) rfl ?_
  refine s_goto 24 hz dX12_pull_58 rfl ?_
  refine s_pick (l' := [(0, aR 51), (1, aI v1), (2, aI t0), (3, aI x12)]) [2, 3, 1, 0] rfl ?_
  exact hk24 _ _ _ rt0 rx12 hW h
def L_X12_pull_24 (p1 : Int) : Nat → Int → Int → HS → zO2
  | 0, _, _, _ => none
  | n + 1, v2, v3, S => 
    zg ((0 : Int) ≤ p1 ∧ p1 < 24) <|
    if S 69 p1 ≤ v3 then (
      some (v2, S))
    else (
      zb (M_X12_pullAt p1 v3 S) fun r9 S10 =>
      if r9 ≤ v2 then (
        J_X12_pull_54 (L_X12_pull_24 p1 n) p1 v3 v2 S10)
      else (
        zb (M_X12_pullAt p1 v3 S10) fun r13 S14 =>
        J_X12_pull_54 (L_X12_pull_24 p1 n) p1 v3 r13 S14))
set_option maxHeartbeats 4000000 in
set_option maxRecDepth 20000 in
theorem TL_X12_pull_24 {p1 : Int} {r : Int} {S' : HS} {z : Zt} (hz : zO z cX12_pull RX12 8 shF) (hN : zN z 4) (hF : zFi z shF .int r S') (rp1 : rng p1) : ∀ (n : Nat) {v2 : Int} {v3 : Int} {S : HS}, rng v2 → rng v3 → WR shF S → L_X12_pull_24 p1 n v2 v3 S = some (r, S') → zA z 24 [(0, aR 51), (1, aI p1), (2, aI v2), (3, aI v3)] [] S := by
  intro n
  induction n with
  | zero =>
    intro _ _ _ _ _ _ h
    cases h
  | succ n ih =>
    intro v2 v3 S rv2 rv3 hW h
    rw [L_X12_pull_24.eq_2] at h
    refine s_iload_n 3 hz dX12_pull_24 rfl ?_
    refine s_aload_n 0 hz dX12_pull_25 rfl ?_
    refine s_getR 30 hz fl_X12_90 sf51 rfl (by decide) dX12_pull_26 ?_
    refine s_iload_n 1 hz dX12_pull_29 rfl ?_
    obtain ⟨g7, h⟩ := zg_of h
    refine s_iald hz sf69 rfl (by decide) g7 dX12_pull_30 ?_
    refine s_icmp_ge 61 hz rv3 (hW 69 _ sf69 p1) dX12_pull_31 rfl (fun c8 => ?_) (fun c8 => ?_)
    · have h := zif_t c8 h
      refine s_iload_n 2 hz dX12_pull_61 rfl ?_
      exact s_iret h hz hF rv2 hW dX12_pull_62
    · have h := zif_f c8 h
      refine s_aload_n 0 hz dX12_pull_34 rfl ?_
      refine s_iload_n 1 hz dX12_pull_35 rfl ?_
      refine s_iload_n 3 hz dX12_pull_36 rfl ?_
      obtain ⟨r9, S10, hc10, h⟩ := zb_of h
      refine s_callV [aI p1, aI v3] [] hz ml_X12_386 sv_yX12_pullAt (T_X12_pullAt rp1 rv3 hW hc10) (by decide) rfl sf51 rfl rfl (Nat.le_of_ble_eq_true rfl) dX12_pull_37 (fun rr9 hW10 => ?_)
      refine s_iload_n 2 hz dX12_pull_40 rfl ?_
      refine s_icmp_le 53 hz rr9 rv2 dX12_pull_41 rfl (fun c11 => ?_) (fun c11 => ?_)
      · have h := zif_t c11 h
        refine s_iload_n 2 hz dX12_pull_53 rfl ?_
        refine s_pick (l' := [(0, aR 51), (1, aI p1), (3, aI v3)]) [0, 1, 3] rfl ?_
        exact TJ_X12_pull_54 hz hN hF (fun _ _ _ => ih) rp1 rv3 rv2 hW10 h
      · have h := zif_f c11 h
        refine s_aload_n 0 hz dX12_pull_44 rfl ?_
        refine s_iload_n 1 hz dX12_pull_45 rfl ?_
        refine s_iload_n 3 hz dX12_pull_46 rfl ?_
        obtain ⟨r13, S14, hc14, h⟩ := zb_of h
        refine s_callV [aI p1, aI v3] [] hz ml_X12_386 sv_yX12_pullAt (T_X12_pullAt rp1 rv3 hW10 hc14) (by decide) rfl sf51 rfl rfl (Nat.le_of_ble_eq_true rfl) dX12_pull_47 (fun rr13 hW14 => ?_)
        refine s_goto 54 hz dX12_pull_50 rfl ?_
        refine s_pick (l' := [(0, aR 51), (1, aI p1), (3, aI v3)]) [0, 1, 3] rfl ?_
        exact TJ_X12_pull_54 hz hN hF (fun _ _ _ => ih) rp1 rv3 rr13 hW14 h
def M_X12_pull (a1 : Int) (S : HS) : zO2 :=
  zs (up S 51 0 0) fun S1 =>
  zb (M_X12_isRow a1 S1) fun r2 S3 =>
  if r2 = 0 then (
    some ((-1), S3))
  else (
    zb (M_X12_braids a1 S3) fun _ S6 =>
    L_X12_pull_24 a1 zBig 0 0 S6)
set_option maxHeartbeats 4000000 in
set_option maxRecDepth 20000 in
theorem T_X12_pull {a1 : Int} {S S' : HS} {r : Int} (ra1 : rng a1) (hW : WR shF S) (h : M_X12_pull a1 S = some (r, S')) : zR shF yX12_pull cX12_pull 4  .int 8 [aR 51, aI a1] S r S' := by
  refine zR_of (by decide +kernel) (Nat.le_of_ble_eq_true rfl) (fun z hz hN hF => ?_)
  have hz : zO z cX12_pull RX12 8 shF := hz
  show zA z 0 [(0, aR 51), (1, aI a1)] [] S
  unfold M_X12_pull at h
  refine s_aload_n 0 hz dX12_pull_0 rfl ?_
  refine s_iconst hz dX12_pull_1 ?_
  obtain ⟨S1, eS1, h⟩ := zs_ex h
  have hW1 : WR shF S1 := by rw [eS1]; exact hW.up (i := 0) sf51 (v := 0) rl_0
  refine s_putI (kz := 0) 0 hz fp_X12_1 sf51 rfl rfl dX12_pull_2 ?_
  rw [← eS1]
  refine s_aload_n 0 hz dX12_pull_5 rfl ?_
  refine s_iload_n 1 hz dX12_pull_6 rfl ?_
  obtain ⟨r2, S3, hc3, h⟩ := zb_of h
  refine s_callV [aI a1] [] hz ml_X12_389 sv_yX12_isRow (T_X12_isRow ra1 hW1 hc3) (by decide) rfl sf51 rfl rfl (Nat.le_of_ble_eq_true rfl) dX12_pull_7 (fun rr2 hW3 => ?_)
  refine s_if_ne 15 hz rr2 dX12_pull_10 rfl (fun c4 => ?_) (fun c4 => ?_)
  · have h := zif_f c4 h
    refine s_aload_n 0 hz dX12_pull_15 rfl ?_
    refine s_iload_n 1 hz dX12_pull_16 rfl ?_
    obtain ⟨r5, S6, hc6, h⟩ := zb_of h
    refine s_callVv [aI a1] [] hz ml_X12_383 sv_yX12_braids (T_X12_braids ra1 hW3 hc6) (by decide) rfl sf51 rfl rfl (Nat.le_of_ble_eq_true rfl) dX12_pull_17 (fun hW6 => ?_)
    refine s_iconst hz dX12_pull_20 ?_
    refine s_istore_n (l' := [(2, aI 0), (0, aR 51), (1, aI a1)]) hz hN dX12_pull_21 (by decide) rfl ?_
    refine s_iconst hz dX12_pull_22 ?_
    refine s_istore_n (l' := [(3, aI 0), (2, aI 0), (0, aR 51), (1, aI a1)]) hz hN dX12_pull_23 (by decide) rfl ?_
    refine s_pick (l' := [(0, aR 51), (1, aI a1), (2, aI 0), (3, aI 0)]) [2, 3, 1, 0] rfl ?_
    exact TL_X12_pull_24 hz hN hF ra1 zBig rl_0 rl_0 hW6 h
  · have h := zif_t c4 h
    refine s_iconst hz dX12_pull_13 ?_
    exact s_iret h hz hF rl_m1 hW3 dX12_pull_14
def J_X12_even_70 (k37 : Int → Int → Int → HS → zO2) (v1 : Int) (v3 : Int) (v4 : Int) (t0 : Int) (S : HS) : zO2 :=
  zg ((0 : Int) ≤ v4 ∧ v4 < 192) <|
  zb (M_X12_least v3 (S 83 v4) S) fun r12 S13 =>
  zl (v4 + 1) fun x14 =>
  k37 t0 r12 x14 S13
set_option maxHeartbeats 4000000 in
set_option maxRecDepth 20000 in
theorem TJ_X12_even_70 {k37 : Int → Int → Int → HS → zO2} {v1 : Int} {v3 : Int} {v4 : Int} {t0 : Int} {S : HS} {r : Int} {S' : HS} {z : Zt} (hz : zO z cX12_even RX12 7 shF) (hN : zN z 5) (hF : zFi z shF .int r S') (hk37 : ∀ (w2 w3 w4 : Int) (S : HS), rng w2 → rng w3 → rng w4 → WR shF S → k37 w2 w3 w4 S = some (r, S') → zA z 37 [(0, aR 51), (1, aI v1), (2, aI w2), (3, aI w3), (4, aI w4)] [] S) (rv1 : rng v1) (rv3 : rng v3) (rv4 : rng v4) (rt0 : rng t0) (hW : WR shF S) (h : J_X12_even_70 k37 v1 v3 v4 t0 S = some (r, S')) : zA z 70 [(0, aR 51), (1, aI v1), (3, aI v3), (4, aI v4)] [aI t0] S := by
  unfold J_X12_even_70 at h
  refine s_istore_n (l' := [(2, aI t0), (0, aR 51), (1, aI v1), (3, aI v3), (4, aI v4)]) hz hN dX12_even_70 (by decide) rfl ?_
  refine s_iload_n 3 hz dX12_even_71 rfl ?_
  refine s_aload_n 1 hz dX12_even_72 rfl ?_
  refine s_getR 48 hz fl_X12_132 sf51 rfl (by decide) dX12_even_73 ?_
  refine s_iload 4 hz dX12_even_76 rfl ?_
  obtain ⟨g11, h⟩ := zg_of h
  refine s_iald hz sf83 rfl (by decide) g11 dX12_even_78 ?_
  obtain ⟨r12, S13, hc13, h⟩ := zb_of h
  refine s_callS [aI v3, aI (S 83 v4)] [] hz ml_X12_289 ss_yX12_least (T_X12_least rv3 (hW 83 _ sf83 v4) hW hc13) (by decide) rfl rfl (Nat.le_of_ble_eq_true rfl) dX12_even_79 (fun rr12 hW13 => ?_)
  refine s_istore_n (l' := [(3, aI r12), (2, aI t0), (0, aR 51), (1, aI v1), (4, aI v4)]) hz hN dX12_even_82 (by decide) rfl ?_
  obtain ⟨x14, ex14, rx14, h⟩ := zl_ex h
  refine s_iinc (k0 := 4) (y := x14) (l' := [(4, aI x14), (3, aI r12), (2, aI t0), (0, aR 51), (1, aI v1)]) hz hN dX12_even_83 rfl ex14.symm (by decide) rfl ?_
  refine s_goto 37 hz dX12_even_86 rfl ?_
  refine s_pick (l' := [(0, aR 51), (1, aI v1), (2, aI t0), (3, aI r12), (4, aI x14)]) [3, 4, 2, 1, 0] rfl ?_
  exact hk37 _ _ _ _ rt0 rr12 rx14 hW13 h
def L_X12_even_37 (k89 : Int → Int → HS → zO2) (p1 : Int) : Nat → Int → Int → Int → HS → zO2
  | 0, _, _, _, _ => none
  | n + 1, v2, v3, v4, S => 
    zg ((0 : Int) ≤ p1 ∧ p1 < 24) <|
    if S 69 p1 ≤ v4 then (
      k89 v2 v3 S)
    else (
      zg ((0 : Int) ≤ v4 ∧ v4 < 192) <|
      if S 83 v4 ≤ v2 then (
        J_X12_even_70 (L_X12_even_37 k89 p1 n) p1 v3 v4 v2 S)
      else (
        zg ((0 : Int) ≤ v4 ∧ v4 < 192) <|
        J_X12_even_70 (L_X12_even_37 k89 p1 n) p1 v3 v4 (S 83 v4) S))
set_option maxHeartbeats 4000000 in
set_option maxRecDepth 20000 in
theorem TL_X12_even_37 {k89 : Int → Int → HS → zO2} {p1 : Int} {r : Int} {S' : HS} {z : Zt} (hz : zO z cX12_even RX12 7 shF) (hN : zN z 5) (hF : zFi z shF .int r S') (hk89 : ∀ (w2 w3 : Int) (S : HS), rng w2 → rng w3 → WR shF S → k89 w2 w3 S = some (r, S') → zA z 89 [(2, aI w2), (3, aI w3)] [] S) (rp1 : rng p1) : ∀ (n : Nat) {v2 : Int} {v3 : Int} {v4 : Int} {S : HS}, rng v2 → rng v3 → rng v4 → WR shF S → L_X12_even_37 k89 p1 n v2 v3 v4 S = some (r, S') → zA z 37 [(0, aR 51), (1, aI p1), (2, aI v2), (3, aI v3), (4, aI v4)] [] S := by
  intro n
  induction n with
  | zero =>
    intro _ _ _ _ _ _ _ _ h
    cases h
  | succ n ih =>
    intro v2 v3 v4 S rv2 rv3 rv4 hW h
    rw [L_X12_even_37.eq_2] at h
    refine s_iload 4 hz dX12_even_37 rfl ?_
    refine s_aload_n 0 hz dX12_even_39 rfl ?_
    refine s_getR 30 hz fl_X12_90 sf51 rfl (by decide) dX12_even_40 ?_
    refine s_iload_n 1 hz dX12_even_43 rfl ?_
    obtain ⟨g7, h⟩ := zg_of h
    refine s_iald hz sf69 rfl (by decide) g7 dX12_even_44 ?_
    refine s_icmp_ge 89 hz rv4 (hW 69 _ sf69 p1) dX12_even_45 rfl (fun c8 => ?_) (fun c8 => ?_)
    · have h := zif_t c8 h
      refine s_pick (l' := [(2, aI v2), (3, aI v3)]) [2, 3] rfl ?_
      exact hk89 _ _ _ rv2 rv3 hW h
    · have h := zif_f c8 h
      refine s_aload_n 0 hz dX12_even_48 rfl ?_
      refine s_getR 48 hz fl_X12_132 sf51 rfl (by decide) dX12_even_49 ?_
      refine s_iload 4 hz dX12_even_52 rfl ?_
      obtain ⟨g9, h⟩ := zg_of h
      refine s_iald hz sf83 rfl (by decide) g9 dX12_even_54 ?_
      refine s_iload_n 2 hz dX12_even_55 rfl ?_
      refine s_icmp_le 69 hz (hW 83 _ sf83 v4) rv2 dX12_even_56 rfl (fun c10 => ?_) (fun c10 => ?_)
      · have h := zif_t c10 h
        refine s_iload_n 2 hz dX12_even_69 rfl ?_
        refine s_pick (l' := [(0, aR 51), (1, aI p1), (3, aI v3), (4, aI v4)]) [0, 1, 3, 4] rfl ?_
        exact TJ_X12_even_70 hz hN hF (fun _ _ _ _ => ih) rp1 rv3 rv4 rv2 hW h
      · have h := zif_f c10 h
        refine s_aload_n 0 hz dX12_even_59 rfl ?_
        refine s_getR 48 hz fl_X12_132 sf51 rfl (by decide) dX12_even_60 ?_
        refine s_iload 4 hz dX12_even_63 rfl ?_
        obtain ⟨g15, h⟩ := zg_of h
        refine s_iald hz sf83 rfl (by decide) g15 dX12_even_65 ?_
        refine s_goto 70 hz dX12_even_66 rfl ?_
        refine s_pick (l' := [(0, aR 51), (1, aI p1), (3, aI v3), (4, aI v4)]) [0, 1, 3, 4] rfl ?_
        exact TJ_X12_even_70 hz hN hF (fun _ _ _ _ => ih) rp1 rv3 rv4 (hW 83 _ sf83 v4) hW h
def M_X12_even (a1 : Int) (S : HS) : zO2 :=
  zs (up S 51 0 0) fun S1 =>
  zb (M_X12_isRow a1 S1) fun r2 S3 =>
  if r2 = 0 then (
    some ((-1), S3))
  else (
    zb (M_X12_findTotals a1 S3) fun _ S6 =>
    L_X12_even_37 (fun e2 e3 S16 =>
        zl (e2 - e3) fun x17 =>
        some (x17, S16)) a1 zBig (S6 83 0) (S6 83 0) 1 S6)
set_option maxHeartbeats 4000000 in
set_option maxRecDepth 20000 in
theorem T_X12_even {a1 : Int} {S S' : HS} {r : Int} (ra1 : rng a1) (hW : WR shF S) (h : M_X12_even a1 S = some (r, S')) : zR shF yX12_even cX12_even 5  .int 7 [aR 51, aI a1] S r S' := by
  refine zR_of (by decide +kernel) (Nat.le_of_ble_eq_true rfl) (fun z hz hN hF => ?_)
  have hz : zO z cX12_even RX12 7 shF := hz
  show zA z 0 [(0, aR 51), (1, aI a1)] [] S
  unfold M_X12_even at h
  refine s_aload_n 0 hz dX12_even_0 rfl ?_
  refine s_iconst hz dX12_even_1 ?_
  obtain ⟨S1, eS1, h⟩ := zs_ex h
  have hW1 : WR shF S1 := by rw [eS1]; exact hW.up (i := 0) sf51 (v := 0) rl_0
  refine s_putI (kz := 0) 0 hz fp_X12_1 sf51 rfl rfl dX12_even_2 ?_
  rw [← eS1]
  refine s_aload_n 0 hz dX12_even_5 rfl ?_
  refine s_iload_n 1 hz dX12_even_6 rfl ?_
  obtain ⟨r2, S3, hc3, h⟩ := zb_of h
  refine s_callV [aI a1] [] hz ml_X12_389 sv_yX12_isRow (T_X12_isRow ra1 hW1 hc3) (by decide) rfl sf51 rfl rfl (Nat.le_of_ble_eq_true rfl) dX12_even_7 (fun rr2 hW3 => ?_)
  refine s_if_ne 15 hz rr2 dX12_even_10 rfl (fun c4 => ?_) (fun c4 => ?_)
  · have h := zif_f c4 h
    refine s_aload_n 0 hz dX12_even_15 rfl ?_
    refine s_iload_n 1 hz dX12_even_16 rfl ?_
    obtain ⟨r5, S6, hc6, h⟩ := zb_of h
    refine s_callVv [aI a1] [] hz ml_X12_360 sv_yX12_findTotals (T_X12_findTotals ra1 hW3 hc6) (by decide) rfl sf51 rfl rfl (Nat.le_of_ble_eq_true rfl) dX12_even_17 (fun hW6 => ?_)
    refine s_aload_n 0 hz dX12_even_20 rfl ?_
    refine s_getR 48 hz fl_X12_132 sf51 rfl (by decide) dX12_even_21 ?_
    refine s_iconst hz dX12_even_24 ?_
    refine s_iald hz sf83 rfl (by decide) (by decide) dX12_even_25 ?_
    refine s_istore_n (l' := [(2, aI (S6 83 0)), (0, aR 51), (1, aI a1)]) hz hN dX12_even_26 (by decide) rfl ?_
    refine s_aload_n 1 hz dX12_even_27 rfl ?_
    refine s_getR 48 hz fl_X12_132 sf51 rfl (by decide) dX12_even_28 ?_
    refine s_iconst hz dX12_even_31 ?_
    refine s_iald hz sf83 rfl (by decide) (by decide) dX12_even_32 ?_
    refine s_istore_n (l' := [(3, aI (S6 83 0)), (2, aI (S6 83 0)), (0, aR 51), (1, aI a1)]) hz hN dX12_even_33 (by decide) rfl ?_
    refine s_iconst hz dX12_even_34 ?_
    refine s_istore (l' := [(4, aI 1), (3, aI (S6 83 0)), (2, aI (S6 83 0)), (0, aR 51), (1, aI a1)]) hz hN dX12_even_35 (by decide) rfl ?_
    refine s_pick (l' := [(0, aR 51), (1, aI a1), (2, aI (S6 83 0)), (3, aI (S6 83 0)), (4, aI 1)]) [3, 4, 2, 1, 0] rfl ?_
    refine TL_X12_even_37 hz hN hF ?_ ra1 zBig (hW6 83 _ sf83 0) (hW6 83 _ sf83 0) rl_1 hW6 h
    · clear h 
      intro e2 e3 S16 re2 re3 hW16 h
      refine s_iload_n 0 hz dX12_even_89 rfl ?_
      refine s_iload_n 1 hz dX12_even_90 rfl ?_
      refine s_isub hz dX12_even_91 ?_
      obtain ⟨x17, ex17, rx17, h⟩ := zl_ex h
      rw [← ex17]
      exact s_iret h hz hF rx17 hW16 dX12_even_92
  · have h := zif_t c4 h
    refine s_iconst hz dX12_even_13 ?_
    exact s_iret h hz hF rl_m1 hW3 dX12_even_14
def M_X12_reach (a1 : Int) (a2 : Int) (a3 : Int) (S : HS) : zO2 :=
  zg ((0 : Int) ≤ a2 ∧ a2 < 24) <|
  zl (a1 - (10 * (((S 69 a2) - 1) - a3))) fun x2 =>
  if 0 ≤ x2 then (
    some (x2, S))
  else (
    some (0, S))
set_option maxHeartbeats 4000000 in
set_option maxRecDepth 20000 in
theorem T_X12_reach {a1 : Int} {a2 : Int} {a3 : Int} {S S' : HS} {r : Int} (ra1 : rng a1) (ra2 : rng a2) (ra3 : rng a3) (hW : WR shF S) (h : M_X12_reach a1 a2 a3 S = some (r, S')) : zR shF yX12_reach cX12_reach 5  .int 1 [aR 51, aI a1, aI a2, aI a3] S r S' := by
  refine zR_of (by decide +kernel) (Nat.le_of_ble_eq_true rfl) (fun z hz hN hF => ?_)
  have hz : zO z cX12_reach RX12 1 shF := hz
  show zA z 0 [(0, aR 51), (1, aI a1), (2, aI a2), (3, aI a3)] [] S
  unfold M_X12_reach at h
  refine s_iload_n 1 hz dX12_reach_0 rfl ?_
  refine s_bipush hz dX12_reach_1 bp_10 ?_
  refine s_aload_n 0 hz dX12_reach_3 rfl ?_
  refine s_getR 30 hz fl_X12_90 sf51 rfl (by decide) dX12_reach_4 ?_
  refine s_iload_n 2 hz dX12_reach_7 rfl ?_
  obtain ⟨g1, h⟩ := zg_of h
  refine s_iald hz sf69 rfl (by decide) g1 dX12_reach_8 ?_
  refine s_iconst hz dX12_reach_9 ?_
  refine s_isub hz dX12_reach_10 ?_
  refine s_iload_n 3 hz dX12_reach_11 rfl ?_
  refine s_isub hz dX12_reach_12 ?_
  refine s_imul hz dX12_reach_13 ?_
  refine s_isub hz dX12_reach_14 ?_
  obtain ⟨x2, ex2, rx2, h⟩ := zl_ex h
  rw [← ex2]
  refine s_istore (l' := [(4, aI x2), (0, aR 51), (1, aI a1), (2, aI a2), (3, aI a3)]) hz hN dX12_reach_15 (by decide) rfl ?_
  refine s_iload 0 hz dX12_reach_17 rfl ?_
  refine s_if_ge 26 hz rx2 dX12_reach_19 rfl (fun c3 => ?_) (fun c3 => ?_)
  · have h := zif_t c3 h
    refine s_iload 0 hz dX12_reach_26 rfl ?_
    exact s_iret h hz hF rx2 hW dX12_reach_28
  · have h := zif_f c3 h
    refine s_iconst hz dX12_reach_22 ?_
    refine s_goto 28 hz dX12_reach_23 rfl ?_
    exact s_iret h hz hF rl_0 hW dX12_reach_28
def J_X12_reaching_54 (k6 : Int → Int → HS → zO2) (v1 : Int) (v2 : Int) (v3 : Int) (v5 : Int) (t0 : Int) (t1 : Int) (S : HS) : zO2 :=
  zl (t1 + t0) fun x6 =>
  zl (v5 + 1) fun x7 =>
  k6 x6 x7 S
set_option maxHeartbeats 4000000 in
set_option maxRecDepth 20000 in
theorem TJ_X12_reaching_54 {k6 : Int → Int → HS → zO2} {v1 : Int} {v2 : Int} {v3 : Int} {v5 : Int} {t0 : Int} {t1 : Int} {S : HS} {r : Int} {S' : HS} {z : Zt} (hz : zO z cX12_reaching RX12 2 shF) (hN : zN z 6) (hF : zFi z shF .int r S') (hk6 : ∀ (w4 w5 : Int) (S : HS), rng w4 → rng w5 → WR shF S → k6 w4 w5 S = some (r, S') → zA z 6 [(0, aR 51), (1, aI v1), (2, aI v2), (3, aI v3), (4, aI w4), (5, aI w5)] [] S) (rv1 : rng v1) (rv2 : rng v2) (rv3 : rng v3) (rv5 : rng v5) (rt0 : rng t0) (rt1 : rng t1) (hW : WR shF S) (h : J_X12_reaching_54 k6 v1 v2 v3 v5 t0 t1 S = some (r, S')) : zA z 54 [(0, aR 51), (1, aI v1), (2, aI v2), (3, aI v3), (5, aI v5)] [aI t0, aI t1] S := by
  unfold J_X12_reaching_54 at h
  refine s_iadd hz dX12_reaching_54 ?_
  obtain ⟨x6, ex6, rx6, h⟩ := zl_ex h
  rw [← ex6]
  refine s_istore (l' := [(4, aI x6), (0, aR 51), (1, aI v1), (2, aI v2), (3, aI v3), (5, aI v5)]) hz hN dX12_reaching_55 (by decide) rfl ?_
  obtain ⟨x7, ex7, rx7, h⟩ := zl_ex h
  refine s_iinc (k0 := 5) (y := x7) (l' := [(5, aI x7), (4, aI x6), (0, aR 51), (1, aI v1), (2, aI v2), (3, aI v3)]) hz hN dX12_reaching_57 rfl ex7.symm (by decide) rfl ?_
  refine s_goto 6 hz dX12_reaching_60 rfl ?_
  refine s_pick (l' := [(0, aR 51), (1, aI v1), (2, aI v2), (3, aI v3), (4, aI x6), (5, aI x7)]) [2, 3, 4, 5, 1, 0] rfl ?_
  exact hk6 _ _ _ rx6 rx7 hW h
def J_X12_reaching_53 (k6 : Int → Int → HS → zO2) (v1 : Int) (v2 : Int) (v3 : Int) (v5 : Int) (t0 : Int) (S : HS) : zO2 :=
  J_X12_reaching_54 k6 v1 v2 v3 v5 0 t0 S
set_option maxHeartbeats 4000000 in
set_option maxRecDepth 20000 in
theorem TJ_X12_reaching_53 {k6 : Int → Int → HS → zO2} {v1 : Int} {v2 : Int} {v3 : Int} {v5 : Int} {t0 : Int} {S : HS} {r : Int} {S' : HS} {z : Zt} (hz : zO z cX12_reaching RX12 2 shF) (hN : zN z 6) (hF : zFi z shF .int r S') (hk6 : ∀ (w4 w5 : Int) (S : HS), rng w4 → rng w5 → WR shF S → k6 w4 w5 S = some (r, S') → zA z 6 [(0, aR 51), (1, aI v1), (2, aI v2), (3, aI v3), (4, aI w4), (5, aI w5)] [] S) (rv1 : rng v1) (rv2 : rng v2) (rv3 : rng v3) (rv5 : rng v5) (rt0 : rng t0) (hW : WR shF S) (h : J_X12_reaching_53 k6 v1 v2 v3 v5 t0 S = some (r, S')) : zA z 53 [(0, aR 51), (1, aI v1), (2, aI v2), (3, aI v3), (5, aI v5)] [aI t0] S := by
  unfold J_X12_reaching_53 at h
  refine s_iconst hz dX12_reaching_53 ?_
  exact TJ_X12_reaching_54 hz hN hF hk6 rv1 rv2 rv3 rv5 rl_0 rt0 hW h
def J_X12_reaching_29 (k6 : Int → Int → HS → zO2) (v1 : Int) (v2 : Int) (v3 : Int) (v5 : Int) (t0 : Int) (S : HS) : zO2 :=
  zb (M_X12_reach (S 51 37) v1 0 S) fun r3 S4 =>
  if r3 < v3 then (
    J_X12_reaching_53 k6 v1 v2 v3 v5 t0 S4)
  else (
    zg ((0 : Int) ≤ v5 ∧ v5 < 3) <|
    J_X12_reaching_54 k6 v1 v2 v3 v5 (S4 86 v5) t0 S4)
set_option maxHeartbeats 4000000 in
set_option maxRecDepth 20000 in
theorem TJ_X12_reaching_29 {k6 : Int → Int → HS → zO2} {v1 : Int} {v2 : Int} {v3 : Int} {v5 : Int} {t0 : Int} {S : HS} {r : Int} {S' : HS} {z : Zt} (hz : zO z cX12_reaching RX12 2 shF) (hN : zN z 6) (hF : zFi z shF .int r S') (hk6 : ∀ (w4 w5 : Int) (S : HS), rng w4 → rng w5 → WR shF S → k6 w4 w5 S = some (r, S') → zA z 6 [(0, aR 51), (1, aI v1), (2, aI v2), (3, aI v3), (4, aI w4), (5, aI w5)] [] S) (rv1 : rng v1) (rv2 : rng v2) (rv3 : rng v3) (rv5 : rng v5) (rt0 : rng t0) (hW : WR shF S) (h : J_X12_reaching_29 k6 v1 v2 v3 v5 t0 S = some (r, S')) : zA z 29 [(0, aR 51), (1, aI v1), (2, aI v2), (3, aI v3), (5, aI v5)] [aI t0] S := by
  unfold J_X12_reaching_29 at h
  refine s_aload_n 0 hz dX12_reaching_29 rfl ?_
  refine s_aload_n 0 hz dX12_reaching_30 rfl ?_
  refine s_getI (kz := 37) 37 hz fl_X12_165 sf51 rfl rfl dX12_reaching_31 ?_
  refine s_iload_n 1 hz dX12_reaching_34 rfl ?_
  refine s_iconst hz dX12_reaching_35 ?_
  obtain ⟨r3, S4, hc4, h⟩ := zb_of h
  refine s_callV [aI (S 51 37), aI v1, aI 0] [aI t0] hz ml_X12_392 sv_yX12_reach (T_X12_reach (hW 51 _ sf51 37) rv1 rl_0 hW hc4) (by decide) rfl sf51 rfl rfl (Nat.le_of_ble_eq_true rfl) dX12_reaching_36 (fun rr3 hW4 => ?_)
  refine s_iload_n 3 hz dX12_reaching_39 rfl ?_
  refine s_icmp_lt 53 hz rr3 rv3 dX12_reaching_40 rfl (fun c5 => ?_) (fun c5 => ?_)
  · have h := zif_t c5 h
    exact TJ_X12_reaching_53 hz hN hF hk6 rv1 rv2 rv3 rv5 rt0 hW4 h
  · have h := zif_f c5 h
    refine s_aload_n 0 hz dX12_reaching_43 rfl ?_
    refine s_getR 51 hz fl_X12_141 sf51 rfl (by decide) dX12_reaching_44 ?_
    refine s_iload 4 hz dX12_reaching_47 rfl ?_
    obtain ⟨g8, h⟩ := zg_of h
    refine s_iald hz sf86 rfl (by decide) g8 dX12_reaching_49 ?_
    refine s_goto 54 hz dX12_reaching_50 rfl ?_
    exact TJ_X12_reaching_54 hz hN hF hk6 rv1 rv2 rv3 rv5 (hW4 86 _ sf86 v5) rt0 hW4 h
def L_X12_reaching_6 (k63 : Int → HS → zO2) (p1 : Int) (p2 : Int) (p3 : Int) : Nat → Int → Int → HS → zO2
  | 0, _, _, _ => none
  | n + 1, v4, v5, S => 
    if 3 ≤ v5 then (
      k63 v4 S)
    else (
      if p2 < 0 then (
        J_X12_reaching_29 (L_X12_reaching_6 k63 p1 p2 p3 n) p1 p2 p3 v5 v4 S)
      else (
        zg ((0 : Int) ≤ v5 ∧ v5 < 3) <|
        if S 87 v5 = p2 then (
          J_X12_reaching_29 (L_X12_reaching_6 k63 p1 p2 p3 n) p1 p2 p3 v5 v4 S)
        else (
          J_X12_reaching_53 (L_X12_reaching_6 k63 p1 p2 p3 n) p1 p2 p3 v5 v4 S)))
set_option maxHeartbeats 4000000 in
set_option maxRecDepth 20000 in
theorem TL_X12_reaching_6 {k63 : Int → HS → zO2} {p1 : Int} {p2 : Int} {p3 : Int} {r : Int} {S' : HS} {z : Zt} (hz : zO z cX12_reaching RX12 2 shF) (hN : zN z 6) (hF : zFi z shF .int r S') (hk63 : ∀ (w4 : Int) (S : HS), rng w4 → WR shF S → k63 w4 S = some (r, S') → zA z 63 [(0, aR 51), (1, aI p1), (2, aI p2), (3, aI p3), (4, aI w4)] [] S) (rp1 : rng p1) (rp2 : rng p2) (rp3 : rng p3) : ∀ (n : Nat) {v4 : Int} {v5 : Int} {S : HS}, rng v4 → rng v5 → WR shF S → L_X12_reaching_6 k63 p1 p2 p3 n v4 v5 S = some (r, S') → zA z 6 [(0, aR 51), (1, aI p1), (2, aI p2), (3, aI p3), (4, aI v4), (5, aI v5)] [] S := by
  intro n
  induction n with
  | zero =>
    intro _ _ _ _ _ _ h
    cases h
  | succ n ih =>
    intro v4 v5 S rv4 rv5 hW h
    rw [L_X12_reaching_6.eq_2] at h
    refine s_iload 5 hz dX12_reaching_6 rfl ?_
    refine s_iconst hz dX12_reaching_8 ?_
    refine s_icmp_ge 63 hz rv5 rl_3 dX12_reaching_9 rfl (fun c1 => ?_) (fun c1 => ?_)
    · have h := zif_t c1 h
      refine s_pick (l' := [(0, aR 51), (1, aI p1), (2, aI p2), (3, aI p3), (4, aI v4)]) [0, 1, 2, 3, 4] rfl ?_
      exact hk63 _ _ rv4 hW h
    · have h := zif_f c1 h
      refine s_iload 4 hz dX12_reaching_12 rfl ?_
      refine s_iload_n 2 hz dX12_reaching_14 rfl ?_
      refine s_if_lt 29 hz rp2 dX12_reaching_15 rfl (fun c2 => ?_) (fun c2 => ?_)
      · have h := zif_t c2 h
        refine s_pick (l' := [(0, aR 51), (1, aI p1), (2, aI p2), (3, aI p3), (5, aI v5)]) [0, 1, 2, 3, 5] rfl ?_
        exact TJ_X12_reaching_29 hz hN hF (fun _ _ _ => ih) rp1 rp2 rp3 rv5 rv4 hW h
      · have h := zif_f c2 h
        refine s_aload_n 0 hz dX12_reaching_18 rfl ?_
        refine s_getR 52 hz fl_X12_144 sf51 rfl (by decide) dX12_reaching_19 ?_
        refine s_iload 5 hz dX12_reaching_22 rfl ?_
        obtain ⟨g9, h⟩ := zg_of h
        refine s_iald hz sf87 rfl (by decide) g9 dX12_reaching_24 ?_
        refine s_iload_n 2 hz dX12_reaching_25 rfl ?_
        refine s_icmp_ne 53 hz (hW 87 _ sf87 v5) rp2 dX12_reaching_26 rfl (fun c10 => ?_) (fun c10 => ?_)
        · have h := zif_f c10 h
          refine s_pick (l' := [(0, aR 51), (1, aI p1), (2, aI p2), (3, aI p3), (5, aI v5)]) [0, 1, 2, 3, 5] rfl ?_
          exact TJ_X12_reaching_53 hz hN hF (fun _ _ _ => ih) rp1 rp2 rp3 rv5 rv4 hW h
        · have h := zif_t c10 h
          refine s_pick (l' := [(0, aR 51), (1, aI p1), (2, aI p2), (3, aI p3), (5, aI v5)]) [0, 1, 2, 3, 5] rfl ?_
          exact TJ_X12_reaching_29 hz hN hF (fun _ _ _ => ih) rp1 rp2 rp3 rv5 rv4 hW h
def J_X12_reaching_120 (k66 : Int → Int → HS → zO2) (v1 : Int) (v2 : Int) (v3 : Int) (v5 : Int) (t0 : Int) (t1 : Int) (S : HS) : zO2 :=
  zl (t1 + t0) fun x18 =>
  zl (v5 + 1) fun x19 =>
  k66 x18 x19 S
set_option maxHeartbeats 4000000 in
set_option maxRecDepth 20000 in
theorem TJ_X12_reaching_120 {k66 : Int → Int → HS → zO2} {v1 : Int} {v2 : Int} {v3 : Int} {v5 : Int} {t0 : Int} {t1 : Int} {S : HS} {r : Int} {S' : HS} {z : Zt} (hz : zO z cX12_reaching RX12 2 shF) (hN : zN z 6) (hF : zFi z shF .int r S') (hk66 : ∀ (w4 w5 : Int) (S : HS), rng w4 → rng w5 → WR shF S → k66 w4 w5 S = some (r, S') → zA z 66 [(0, aR 51), (1, aI v1), (2, aI v2), (3, aI v3), (4, aI w4), (5, aI w5)] [] S) (rv1 : rng v1) (rv2 : rng v2) (rv3 : rng v3) (rv5 : rng v5) (rt0 : rng t0) (rt1 : rng t1) (hW : WR shF S) (h : J_X12_reaching_120 k66 v1 v2 v3 v5 t0 t1 S = some (r, S')) : zA z 120 [(0, aR 51), (1, aI v1), (2, aI v2), (3, aI v3), (5, aI v5)] [aI t0, aI t1] S := by
  unfold J_X12_reaching_120 at h
  refine s_iadd hz dX12_reaching_120 ?_
  obtain ⟨x18, ex18, rx18, h⟩ := zl_ex h
  rw [← ex18]
  refine s_istore (l' := [(4, aI x18), (0, aR 51), (1, aI v1), (2, aI v2), (3, aI v3), (5, aI v5)]) hz hN dX12_reaching_121 (by decide) rfl ?_
  obtain ⟨x19, ex19, rx19, h⟩ := zl_ex h
  refine s_iinc (k0 := 5) (y := x19) (l' := [(5, aI x19), (4, aI x18), (0, aR 51), (1, aI v1), (2, aI v2), (3, aI v3)]) hz hN dX12_reaching_123 rfl ex19.symm (by decide) rfl ?_
  refine s_goto 66 hz dX12_reaching_126 rfl ?_
  refine s_pick (l' := [(0, aR 51), (1, aI v1), (2, aI v2), (3, aI v3), (4, aI x18), (5, aI x19)]) [2, 3, 4, 5, 1, 0] rfl ?_
  exact hk66 _ _ _ rx18 rx19 hW h
def J_X12_reaching_119 (k66 : Int → Int → HS → zO2) (v1 : Int) (v2 : Int) (v3 : Int) (v5 : Int) (t0 : Int) (S : HS) : zO2 :=
  J_X12_reaching_120 k66 v1 v2 v3 v5 0 t0 S
set_option maxHeartbeats 4000000 in
set_option maxRecDepth 20000 in
theorem TJ_X12_reaching_119 {k66 : Int → Int → HS → zO2} {v1 : Int} {v2 : Int} {v3 : Int} {v5 : Int} {t0 : Int} {S : HS} {r : Int} {S' : HS} {z : Zt} (hz : zO z cX12_reaching RX12 2 shF) (hN : zN z 6) (hF : zFi z shF .int r S') (hk66 : ∀ (w4 w5 : Int) (S : HS), rng w4 → rng w5 → WR shF S → k66 w4 w5 S = some (r, S') → zA z 66 [(0, aR 51), (1, aI v1), (2, aI v2), (3, aI v3), (4, aI w4), (5, aI w5)] [] S) (rv1 : rng v1) (rv2 : rng v2) (rv3 : rng v3) (rv5 : rng v5) (rt0 : rng t0) (hW : WR shF S) (h : J_X12_reaching_119 k66 v1 v2 v3 v5 t0 S = some (r, S')) : zA z 119 [(0, aR 51), (1, aI v1), (2, aI v2), (3, aI v3), (5, aI v5)] [aI t0] S := by
  unfold J_X12_reaching_119 at h
  refine s_iconst hz dX12_reaching_119 ?_
  exact TJ_X12_reaching_120 hz hN hF hk66 rv1 rv2 rv3 rv5 rl_0 rt0 hW h
def J_X12_reaching_94 (k66 : Int → Int → HS → zO2) (v1 : Int) (v2 : Int) (v3 : Int) (v5 : Int) (t0 : Int) (S : HS) : zO2 :=
  zb (M_X12_reach (S 51 37) v1 v5 S) fun r15 S16 =>
  if r15 < v3 then (
    J_X12_reaching_119 k66 v1 v2 v3 v5 t0 S16)
  else (
    zg ((0 : Int) ≤ v5 ∧ v5 < 192) <|
    J_X12_reaching_120 k66 v1 v2 v3 v5 (S16 83 v5) t0 S16)
set_option maxHeartbeats 4000000 in
set_option maxRecDepth 20000 in
theorem TJ_X12_reaching_94 {k66 : Int → Int → HS → zO2} {v1 : Int} {v2 : Int} {v3 : Int} {v5 : Int} {t0 : Int} {S : HS} {r : Int} {S' : HS} {z : Zt} (hz : zO z cX12_reaching RX12 2 shF) (hN : zN z 6) (hF : zFi z shF .int r S') (hk66 : ∀ (w4 w5 : Int) (S : HS), rng w4 → rng w5 → WR shF S → k66 w4 w5 S = some (r, S') → zA z 66 [(0, aR 51), (1, aI v1), (2, aI v2), (3, aI v3), (4, aI w4), (5, aI w5)] [] S) (rv1 : rng v1) (rv2 : rng v2) (rv3 : rng v3) (rv5 : rng v5) (rt0 : rng t0) (hW : WR shF S) (h : J_X12_reaching_94 k66 v1 v2 v3 v5 t0 S = some (r, S')) : zA z 94 [(0, aR 51), (1, aI v1), (2, aI v2), (3, aI v3), (5, aI v5)] [aI t0] S := by
  unfold J_X12_reaching_94 at h
  refine s_aload_n 0 hz dX12_reaching_94 rfl ?_
  refine s_aload_n 0 hz dX12_reaching_95 rfl ?_
  refine s_getI (kz := 37) 37 hz fl_X12_165 sf51 rfl rfl dX12_reaching_96 ?_
  refine s_iload_n 1 hz dX12_reaching_99 rfl ?_
  refine s_iload 4 hz dX12_reaching_100 rfl ?_
  obtain ⟨r15, S16, hc16, h⟩ := zb_of h
  refine s_callV [aI (S 51 37), aI v1, aI v5] [aI t0] hz ml_X12_392 sv_yX12_reach (T_X12_reach (hW 51 _ sf51 37) rv1 rv5 hW hc16) (by decide) rfl sf51 rfl rfl (Nat.le_of_ble_eq_true rfl) dX12_reaching_102 (fun rr15 hW16 => ?_)
  refine s_iload_n 3 hz dX12_reaching_105 rfl ?_
  refine s_icmp_lt 119 hz rr15 rv3 dX12_reaching_106 rfl (fun c17 => ?_) (fun c17 => ?_)
  · have h := zif_t c17 h
    exact TJ_X12_reaching_119 hz hN hF hk66 rv1 rv2 rv3 rv5 rt0 hW16 h
  · have h := zif_f c17 h
    refine s_aload_n 0 hz dX12_reaching_109 rfl ?_
    refine s_getR 48 hz fl_X12_132 sf51 rfl (by decide) dX12_reaching_110 ?_
    refine s_iload 4 hz dX12_reaching_113 rfl ?_
    obtain ⟨g20, h⟩ := zg_of h
    refine s_iald hz sf83 rfl (by decide) g20 dX12_reaching_115 ?_
    refine s_goto 120 hz dX12_reaching_116 rfl ?_
    exact TJ_X12_reaching_120 hz hN hF hk66 rv1 rv2 rv3 rv5 (hW16 83 _ sf83 v5) rt0 hW16 h
def L_X12_reaching_66 (k129 : Int → HS → zO2) (p1 : Int) (p2 : Int) (p3 : Int) : Nat → Int → Int → HS → zO2
  | 0, _, _, _ => none
  | n + 1, v4, v5, S => 
    zg ((0 : Int) ≤ p1 ∧ p1 < 24) <|
    if S 69 p1 ≤ v5 then (
      k129 v4 S)
    else (
      if p2 < 0 then (
        J_X12_reaching_94 (L_X12_reaching_66 k129 p1 p2 p3 n) p1 p2 p3 v5 v4 S)
      else (
        zg ((0 : Int) ≤ v5 ∧ v5 < 192) <|
        if S 85 v5 = p2 then (
          J_X12_reaching_94 (L_X12_reaching_66 k129 p1 p2 p3 n) p1 p2 p3 v5 v4 S)
        else (
          J_X12_reaching_119 (L_X12_reaching_66 k129 p1 p2 p3 n) p1 p2 p3 v5 v4 S)))
set_option maxHeartbeats 4000000 in
set_option maxRecDepth 20000 in
theorem TL_X12_reaching_66 {k129 : Int → HS → zO2} {p1 : Int} {p2 : Int} {p3 : Int} {r : Int} {S' : HS} {z : Zt} (hz : zO z cX12_reaching RX12 2 shF) (hN : zN z 6) (hF : zFi z shF .int r S') (hk129 : ∀ (w4 : Int) (S : HS), rng w4 → WR shF S → k129 w4 S = some (r, S') → zA z 129 [(0, aR 51), (1, aI p1), (2, aI p2), (3, aI p3), (4, aI w4)] [] S) (rp1 : rng p1) (rp2 : rng p2) (rp3 : rng p3) : ∀ (n : Nat) {v4 : Int} {v5 : Int} {S : HS}, rng v4 → rng v5 → WR shF S → L_X12_reaching_66 k129 p1 p2 p3 n v4 v5 S = some (r, S') → zA z 66 [(0, aR 51), (1, aI p1), (2, aI p2), (3, aI p3), (4, aI v4), (5, aI v5)] [] S := by
  intro n
  induction n with
  | zero =>
    intro _ _ _ _ _ _ h
    cases h
  | succ n ih =>
    intro v4 v5 S rv4 rv5 hW h
    rw [L_X12_reaching_66.eq_2] at h
    refine s_iload 5 hz dX12_reaching_66 rfl ?_
    refine s_aload_n 0 hz dX12_reaching_68 rfl ?_
    refine s_getR 30 hz fl_X12_90 sf51 rfl (by decide) dX12_reaching_69 ?_
    refine s_iload_n 1 hz dX12_reaching_72 rfl ?_
    obtain ⟨g12, h⟩ := zg_of h
    refine s_iald hz sf69 rfl (by decide) g12 dX12_reaching_73 ?_
    refine s_icmp_ge 129 hz rv5 (hW 69 _ sf69 p1) dX12_reaching_74 rfl (fun c13 => ?_) (fun c13 => ?_)
    · have h := zif_t c13 h
      refine s_pick (l' := [(0, aR 51), (1, aI p1), (2, aI p2), (3, aI p3), (4, aI v4)]) [0, 1, 2, 3, 4] rfl ?_
      exact hk129 _ _ rv4 hW h
    · have h := zif_f c13 h
      refine s_iload 4 hz dX12_reaching_77 rfl ?_
      refine s_iload_n 2 hz dX12_reaching_79 rfl ?_
      refine s_if_lt 94 hz rp2 dX12_reaching_80 rfl (fun c14 => ?_) (fun c14 => ?_)
      · have h := zif_t c14 h
        refine s_pick (l' := [(0, aR 51), (1, aI p1), (2, aI p2), (3, aI p3), (5, aI v5)]) [0, 1, 2, 3, 5] rfl ?_
        exact TJ_X12_reaching_94 hz hN hF (fun _ _ _ => ih) rp1 rp2 rp3 rv5 rv4 hW h
      · have h := zif_f c14 h
        refine s_aload_n 0 hz dX12_reaching_83 rfl ?_
        refine s_getR 50 hz fl_X12_138 sf51 rfl (by decide) dX12_reaching_84 ?_
        refine s_iload 5 hz dX12_reaching_87 rfl ?_
        obtain ⟨g21, h⟩ := zg_of h
        refine s_iald hz sf85 rfl (by decide) g21 dX12_reaching_89 ?_
        refine s_iload_n 2 hz dX12_reaching_90 rfl ?_
        refine s_icmp_ne 119 hz (hW 85 _ sf85 v5) rp2 dX12_reaching_91 rfl (fun c22 => ?_) (fun c22 => ?_)
        · have h := zif_f c22 h
          refine s_pick (l' := [(0, aR 51), (1, aI p1), (2, aI p2), (3, aI p3), (5, aI v5)]) [0, 1, 2, 3, 5] rfl ?_
          exact TJ_X12_reaching_119 hz hN hF (fun _ _ _ => ih) rp1 rp2 rp3 rv5 rv4 hW h
        · have h := zif_t c22 h
          refine s_pick (l' := [(0, aR 51), (1, aI p1), (2, aI p2), (3, aI p3), (5, aI v5)]) [0, 1, 2, 3, 5] rfl ?_
          exact TJ_X12_reaching_94 hz hN hF (fun _ _ _ => ih) rp1 rp2 rp3 rv5 rv4 hW h
def J_X12_reaching_203 (k132 : Int → Int → HS → zO2) (v1 : Int) (v2 : Int) (v3 : Int) (v5 : Int) (t0 : Int) (t1 : Int) (S : HS) : zO2 :=
  zl (t1 + t0) fun x27 =>
  zl (v5 + 1) fun x28 =>
  k132 x27 x28 S
set_option maxHeartbeats 4000000 in
set_option maxRecDepth 20000 in
theorem TJ_X12_reaching_203 {k132 : Int → Int → HS → zO2} {v1 : Int} {v2 : Int} {v3 : Int} {v5 : Int} {t0 : Int} {t1 : Int} {S : HS} {r : Int} {S' : HS} {z : Zt} (hz : zO z cX12_reaching RX12 2 shF) (hN : zN z 6) (hF : zFi z shF .int r S') (hk132 : ∀ (w4 w5 : Int) (S : HS), rng w4 → rng w5 → WR shF S → k132 w4 w5 S = some (r, S') → zA z 132 [(0, aR 51), (1, aI v1), (2, aI v2), (3, aI v3), (4, aI w4), (5, aI w5)] [] S) (rv1 : rng v1) (rv2 : rng v2) (rv3 : rng v3) (rv5 : rng v5) (rt0 : rng t0) (rt1 : rng t1) (hW : WR shF S) (h : J_X12_reaching_203 k132 v1 v2 v3 v5 t0 t1 S = some (r, S')) : zA z 203 [(0, aR 51), (1, aI v1), (2, aI v2), (3, aI v3), (5, aI v5)] [aI t0, aI t1] S := by
  unfold J_X12_reaching_203 at h
  refine s_iadd hz dX12_reaching_203 ?_
  obtain ⟨x27, ex27, rx27, h⟩ := zl_ex h
  rw [← ex27]
  refine s_istore (l' := [(4, aI x27), (0, aR 51), (1, aI v1), (2, aI v2), (3, aI v3), (5, aI v5)]) hz hN dX12_reaching_204 (by decide) rfl ?_
  obtain ⟨x28, ex28, rx28, h⟩ := zl_ex h
  refine s_iinc (k0 := 5) (y := x28) (l' := [(5, aI x28), (4, aI x27), (0, aR 51), (1, aI v1), (2, aI v2), (3, aI v3)]) hz hN dX12_reaching_206 rfl ex28.symm (by decide) rfl ?_
  refine s_goto 132 hz dX12_reaching_209 rfl ?_
  refine s_pick (l' := [(0, aR 51), (1, aI v1), (2, aI v2), (3, aI v3), (4, aI x27), (5, aI x28)]) [2, 3, 4, 5, 1, 0] rfl ?_
  exact hk132 _ _ _ rx27 rx28 hW h
def J_X12_reaching_202 (k132 : Int → Int → HS → zO2) (v1 : Int) (v2 : Int) (v3 : Int) (v5 : Int) (t0 : Int) (S : HS) : zO2 :=
  J_X12_reaching_203 k132 v1 v2 v3 v5 0 t0 S
set_option maxHeartbeats 4000000 in
set_option maxRecDepth 20000 in
theorem TJ_X12_reaching_202 {k132 : Int → Int → HS → zO2} {v1 : Int} {v2 : Int} {v3 : Int} {v5 : Int} {t0 : Int} {S : HS} {r : Int} {S' : HS} {z : Zt} (hz : zO z cX12_reaching RX12 2 shF) (hN : zN z 6) (hF : zFi z shF .int r S') (hk132 : ∀ (w4 w5 : Int) (S : HS), rng w4 → rng w5 → WR shF S → k132 w4 w5 S = some (r, S') → zA z 132 [(0, aR 51), (1, aI v1), (2, aI v2), (3, aI v3), (4, aI w4), (5, aI w5)] [] S) (rv1 : rng v1) (rv2 : rng v2) (rv3 : rng v3) (rv5 : rng v5) (rt0 : rng t0) (hW : WR shF S) (h : J_X12_reaching_202 k132 v1 v2 v3 v5 t0 S = some (r, S')) : zA z 202 [(0, aR 51), (1, aI v1), (2, aI v2), (3, aI v3), (5, aI v5)] [aI t0] S := by
  unfold J_X12_reaching_202 at h
  refine s_iconst hz dX12_reaching_202 ?_
  exact TJ_X12_reaching_203 hz hN hF hk132 rv1 rv2 rv3 rv5 rl_0 rt0 hW h
def J_X12_reaching_169 (k132 : Int → Int → HS → zO2) (v1 : Int) (v2 : Int) (v3 : Int) (v5 : Int) (t0 : Int) (S : HS) : zO2 :=
  zg ((0 : Int) ≤ v5 ∧ v5 < 60) <|
  zg ((0 : Int) ≤ v5 ∧ v5 < 60) <|
  zb (M_X12_reach (S 82 v5) v1 (S 80 v5) S) fun r32 S33 =>
  if r32 < v3 then (
    J_X12_reaching_202 k132 v1 v2 v3 v5 t0 S33)
  else (
    zg ((0 : Int) ≤ v5 ∧ v5 < 60) <|
    J_X12_reaching_203 k132 v1 v2 v3 v5 (S33 81 v5) t0 S33)
set_option maxHeartbeats 4000000 in
set_option maxRecDepth 20000 in
theorem TJ_X12_reaching_169 {k132 : Int → Int → HS → zO2} {v1 : Int} {v2 : Int} {v3 : Int} {v5 : Int} {t0 : Int} {S : HS} {r : Int} {S' : HS} {z : Zt} (hz : zO z cX12_reaching RX12 2 shF) (hN : zN z 6) (hF : zFi z shF .int r S') (hk132 : ∀ (w4 w5 : Int) (S : HS), rng w4 → rng w5 → WR shF S → k132 w4 w5 S = some (r, S') → zA z 132 [(0, aR 51), (1, aI v1), (2, aI v2), (3, aI v3), (4, aI w4), (5, aI w5)] [] S) (rv1 : rng v1) (rv2 : rng v2) (rv3 : rng v3) (rv5 : rng v5) (rt0 : rng t0) (hW : WR shF S) (h : J_X12_reaching_169 k132 v1 v2 v3 v5 t0 S = some (r, S')) : zA z 169 [(0, aR 51), (1, aI v1), (2, aI v2), (3, aI v3), (5, aI v5)] [aI t0] S := by
  unfold J_X12_reaching_169 at h
  refine s_aload_n 0 hz dX12_reaching_169 rfl ?_
  refine s_aload_n 0 hz dX12_reaching_170 rfl ?_
  refine s_getR 47 hz fl_X12_129 sf51 rfl (by decide) dX12_reaching_171 ?_
  refine s_iload 4 hz dX12_reaching_174 rfl ?_
  obtain ⟨g30, h⟩ := zg_of h
  refine s_iald hz sf82 rfl (by decide) g30 dX12_reaching_176 ?_
  refine s_iload_n 1 hz dX12_reaching_177 rfl ?_
  refine s_aload_n 0 hz dX12_reaching_178 rfl ?_
  refine s_getR 45 hz fl_X12_123 sf51 rfl (by decide) dX12_reaching_179 ?_
  refine s_iload 4 hz dX12_reaching_182 rfl ?_
  obtain ⟨g31, h⟩ := zg_of h
  refine s_iald hz sf80 rfl (by decide) g31 dX12_reaching_184 ?_
  obtain ⟨r32, S33, hc33, h⟩ := zb_of h
  refine s_callV [aI (S 82 v5), aI v1, aI (S 80 v5)] [aI t0] hz ml_X12_392 sv_yX12_reach (T_X12_reach (hW 82 _ sf82 v5) rv1 (hW 80 _ sf80 v5) hW hc33) (by decide) rfl sf51 rfl rfl (Nat.le_of_ble_eq_true rfl) dX12_reaching_185 (fun rr32 hW33 => ?_)
  refine s_iload_n 3 hz dX12_reaching_188 rfl ?_
  refine s_icmp_lt 202 hz rr32 rv3 dX12_reaching_189 rfl (fun c34 => ?_) (fun c34 => ?_)
  · have h := zif_t c34 h
    exact TJ_X12_reaching_202 hz hN hF hk132 rv1 rv2 rv3 rv5 rt0 hW33 h
  · have h := zif_f c34 h
    refine s_aload_n 0 hz dX12_reaching_192 rfl ?_
    refine s_getR 46 hz fl_X12_126 sf51 rfl (by decide) dX12_reaching_193 ?_
    refine s_iload 4 hz dX12_reaching_196 rfl ?_
    obtain ⟨g35, h⟩ := zg_of h
    refine s_iald hz sf81 rfl (by decide) g35 dX12_reaching_198 ?_
    refine s_goto 203 hz dX12_reaching_199 rfl ?_
    exact TJ_X12_reaching_203 hz hN hF hk132 rv1 rv2 rv3 rv5 (hW33 81 _ sf81 v5) rt0 hW33 h
def L_X12_reaching_132 (p1 : Int) (p2 : Int) (p3 : Int) : Nat → Int → Int → HS → zO2
  | 0, _, _, _ => none
  | n + 1, v4, v5, S => 
    if S 51 43 ≤ v5 then (
      some (v4, S))
    else (
      zg ((0 : Int) ≤ v5 ∧ v5 < 60) <|
      if S 79 v5 = p1 then (
        if p2 < 0 then (
          J_X12_reaching_169 (L_X12_reaching_132 p1 p2 p3 n) p1 p2 p3 v5 v4 S)
        else (
          zg ((0 : Int) ≤ v5 ∧ v5 < 60) <|
          if S 88 v5 = p2 then (
            J_X12_reaching_169 (L_X12_reaching_132 p1 p2 p3 n) p1 p2 p3 v5 v4 S)
          else (
            J_X12_reaching_202 (L_X12_reaching_132 p1 p2 p3 n) p1 p2 p3 v5 v4 S)))
      else (
        J_X12_reaching_202 (L_X12_reaching_132 p1 p2 p3 n) p1 p2 p3 v5 v4 S))
set_option maxHeartbeats 4000000 in
set_option maxRecDepth 20000 in
theorem TL_X12_reaching_132 {p1 : Int} {p2 : Int} {p3 : Int} {r : Int} {S' : HS} {z : Zt} (hz : zO z cX12_reaching RX12 2 shF) (hN : zN z 6) (hF : zFi z shF .int r S') (rp1 : rng p1) (rp2 : rng p2) (rp3 : rng p3) : ∀ (n : Nat) {v4 : Int} {v5 : Int} {S : HS}, rng v4 → rng v5 → WR shF S → L_X12_reaching_132 p1 p2 p3 n v4 v5 S = some (r, S') → zA z 132 [(0, aR 51), (1, aI p1), (2, aI p2), (3, aI p3), (4, aI v4), (5, aI v5)] [] S := by
  intro n
  induction n with
  | zero =>
    intro _ _ _ _ _ _ h
    cases h
  | succ n ih =>
    intro v4 v5 S rv4 rv5 hW h
    rw [L_X12_reaching_132.eq_2] at h
    refine s_iload 5 hz dX12_reaching_132 rfl ?_
    refine s_aload_n 0 hz dX12_reaching_134 rfl ?_
    refine s_getI (kz := 43) 43 hz fl_X12_357 sf51 rfl rfl dX12_reaching_135 ?_
    refine s_icmp_ge 212 hz rv5 (hW 51 _ sf51 43) dX12_reaching_138 rfl (fun c24 => ?_) (fun c24 => ?_)
    · have h := zif_t c24 h
      refine s_iload 4 hz dX12_reaching_212 rfl ?_
      exact s_iret h hz hF rv4 hW dX12_reaching_214
    · have h := zif_f c24 h
      refine s_iload 4 hz dX12_reaching_141 rfl ?_
      refine s_aload_n 0 hz dX12_reaching_143 rfl ?_
      refine s_getR 44 hz fl_X12_120 sf51 rfl (by decide) dX12_reaching_144 ?_
      refine s_iload 5 hz dX12_reaching_147 rfl ?_
      obtain ⟨g25, h⟩ := zg_of h
      refine s_iald hz sf79 rfl (by decide) g25 dX12_reaching_149 ?_
      refine s_iload_n 1 hz dX12_reaching_150 rfl ?_
      refine s_icmp_ne 202 hz (hW 79 _ sf79 v5) rp1 dX12_reaching_151 rfl (fun c26 => ?_) (fun c26 => ?_)
      · have h := zif_f c26 h
        refine s_pick (l' := [(0, aR 51), (1, aI p1), (2, aI p2), (3, aI p3), (5, aI v5)]) [0, 1, 2, 3, 5] rfl ?_
        exact TJ_X12_reaching_202 hz hN hF (fun _ _ _ => ih) rp1 rp2 rp3 rv5 rv4 hW h
      · have h := zif_t c26 h
        refine s_iload_n 2 hz dX12_reaching_154 rfl ?_
        refine s_if_lt 169 hz rp2 dX12_reaching_155 rfl (fun c29 => ?_) (fun c29 => ?_)
        · have h := zif_t c29 h
          refine s_pick (l' := [(0, aR 51), (1, aI p1), (2, aI p2), (3, aI p3), (5, aI v5)]) [0, 1, 2, 3, 5] rfl ?_
          exact TJ_X12_reaching_169 hz hN hF (fun _ _ _ => ih) rp1 rp2 rp3 rv5 rv4 hW h
        · have h := zif_f c29 h
          refine s_aload_n 0 hz dX12_reaching_158 rfl ?_
          refine s_getR 53 hz fl_X12_147 sf51 rfl (by decide) dX12_reaching_159 ?_
          refine s_iload 5 hz dX12_reaching_162 rfl ?_
          obtain ⟨g36, h⟩ := zg_of h
          refine s_iald hz sf88 rfl (by decide) g36 dX12_reaching_164 ?_
          refine s_iload_n 2 hz dX12_reaching_165 rfl ?_
          refine s_icmp_ne 202 hz (hW 88 _ sf88 v5) rp2 dX12_reaching_166 rfl (fun c37 => ?_) (fun c37 => ?_)
          · have h := zif_f c37 h
            refine s_pick (l' := [(0, aR 51), (1, aI p1), (2, aI p2), (3, aI p3), (5, aI v5)]) [0, 1, 2, 3, 5] rfl ?_
            exact TJ_X12_reaching_202 hz hN hF (fun _ _ _ => ih) rp1 rp2 rp3 rv5 rv4 hW h
          · have h := zif_t c37 h
            refine s_pick (l' := [(0, aR 51), (1, aI p1), (2, aI p2), (3, aI p3), (5, aI v5)]) [0, 1, 2, 3, 5] rfl ?_
            exact TJ_X12_reaching_169 hz hN hF (fun _ _ _ => ih) rp1 rp2 rp3 rv5 rv4 hW h
def M_X12_reaching (a1 : Int) (a2 : Int) (a3 : Int) (S : HS) : zO2 :=
  L_X12_reaching_6 (fun e4 S11 =>
      L_X12_reaching_66 (fun e4 S23 =>
          L_X12_reaching_132 a1 a2 a3 zBig e4 0 S23) a1 a2 a3 zBig e4 1 S11) a1 a2 a3 zBig 0 0 S
set_option maxHeartbeats 4000000 in
set_option maxRecDepth 20000 in
theorem T_X12_reaching {a1 : Int} {a2 : Int} {a3 : Int} {S S' : HS} {r : Int} (ra1 : rng a1) (ra2 : rng a2) (ra3 : rng a3) (hW : WR shF S) (h : M_X12_reaching a1 a2 a3 S = some (r, S')) : zR shF yX12_reaching cX12_reaching 6  .int 2 [aR 51, aI a1, aI a2, aI a3] S r S' := by
  refine zR_of (by decide +kernel) (Nat.le_of_ble_eq_true rfl) (fun z hz hN hF => ?_)
  have hz : zO z cX12_reaching RX12 2 shF := hz
  show zA z 0 [(0, aR 51), (1, aI a1), (2, aI a2), (3, aI a3)] [] S
  unfold M_X12_reaching at h
  refine s_iconst hz dX12_reaching_0 ?_
  refine s_istore (l' := [(4, aI 0), (0, aR 51), (1, aI a1), (2, aI a2), (3, aI a3)]) hz hN dX12_reaching_1 (by decide) rfl ?_
  refine s_iconst hz dX12_reaching_3 ?_
  refine s_istore (l' := [(5, aI 0), (4, aI 0), (0, aR 51), (1, aI a1), (2, aI a2), (3, aI a3)]) hz hN dX12_reaching_4 (by decide) rfl ?_
  refine s_pick (l' := [(0, aR 51), (1, aI a1), (2, aI a2), (3, aI a3), (4, aI 0), (5, aI 0)]) [2, 3, 4, 5, 1, 0] rfl ?_
  refine TL_X12_reaching_6 hz hN hF ?_ ra1 ra2 ra3 zBig rl_0 rl_0 hW h
  · clear h 
    intro e4 S11 re4 hW11 h
    refine s_iconst hz dX12_reaching_63 ?_
    refine s_istore (l' := [(5, aI 1), (0, aR 51), (1, aI a1), (2, aI a2), (3, aI a3), (4, aI e4)]) hz hN dX12_reaching_64 (by decide) rfl ?_
    refine s_pick (l' := [(0, aR 51), (1, aI a1), (2, aI a2), (3, aI a3), (4, aI e4), (5, aI 1)]) [1, 2, 3, 4, 5, 0] rfl ?_
    refine TL_X12_reaching_66 hz hN hF ?_ ra1 ra2 ra3 zBig re4 rl_1 hW11 h
    · clear h 
      intro e4 S23 re4 hW23 h
      refine s_iconst hz dX12_reaching_129 ?_
      refine s_istore (l' := [(5, aI 0), (0, aR 51), (1, aI a1), (2, aI a2), (3, aI a3), (4, aI e4)]) hz hN dX12_reaching_130 (by decide) rfl ?_
      refine s_pick (l' := [(0, aR 51), (1, aI a1), (2, aI a2), (3, aI a3), (4, aI e4), (5, aI 0)]) [1, 2, 3, 4, 5, 0] rfl ?_
      exact TL_X12_reaching_132 hz hN hF ra1 ra2 ra3 zBig re4 rl_0 hW23 h
def J_X12_greatest_47 (k19 : Int → Int → HS → zO2) (v1 : Int) (v2 : Int) (v3 : Int) (v5 : Int) (t0 : Int) (t1 : Int) (S : HS) : zO2 :=
  zl (t1 + t0) fun x9 =>
  zg ((0 : Int) ≤ v5 ∧ (0 : Int) < 2) <|
  zl (v5 / 2) fun x11 =>
  k19 x9 x11 S
set_option maxHeartbeats 4000000 in
set_option maxRecDepth 20000 in
theorem TJ_X12_greatest_47 {k19 : Int → Int → HS → zO2} {v1 : Int} {v2 : Int} {v3 : Int} {v5 : Int} {t0 : Int} {t1 : Int} {S : HS} {r : Int} {S' : HS} {z : Zt} (hz : zO z cX12_greatest RX12 3 shF) (hN : zN z 6) (hF : zFi z shF .int r S') (hk19 : ∀ (w4 w5 : Int) (S : HS), rng w4 → rng w5 → WR shF S → k19 w4 w5 S = some (r, S') → zA z 19 [(0, aR 51), (1, aI v1), (2, aI v2), (3, aI v3), (4, aI w4), (5, aI w5)] [] S) (rv1 : rng v1) (rv2 : rng v2) (rv3 : rng v3) (rv5 : rng v5) (rt0 : rng t0) (rt1 : rng t1) (hW : WR shF S) (h : J_X12_greatest_47 k19 v1 v2 v3 v5 t0 t1 S = some (r, S')) : zA z 47 [(0, aR 51), (1, aI v1), (2, aI v2), (3, aI v3), (5, aI v5)] [aI t0, aI t1] S := by
  unfold J_X12_greatest_47 at h
  refine s_iadd hz dX12_greatest_47 ?_
  obtain ⟨x9, ex9, rx9, h⟩ := zl_ex h
  rw [← ex9]
  refine s_istore (l' := [(4, aI x9), (0, aR 51), (1, aI v1), (2, aI v2), (3, aI v3), (5, aI v5)]) hz hN dX12_greatest_48 (by decide) rfl ?_
  refine s_iload 5 hz dX12_greatest_50 rfl ?_
  refine s_iconst hz dX12_greatest_52 ?_
  obtain ⟨g10, h⟩ := zg_of h
  refine s_idiv hz g10.1 g10.2 rv5 rl_2 dX12_greatest_53 ?_
  obtain ⟨x11, ex11, rx11, h⟩ := zl_ex h
  rw [← ex11]
  refine s_istore (l' := [(5, aI x11), (4, aI x9), (0, aR 51), (1, aI v1), (2, aI v2), (3, aI v3)]) hz hN dX12_greatest_54 (by decide) rfl ?_
  refine s_goto 19 hz dX12_greatest_56 rfl ?_
  refine s_pick (l' := [(0, aR 51), (1, aI v1), (2, aI v2), (3, aI v3), (4, aI x9), (5, aI x11)]) [2, 3, 4, 5, 1, 0] rfl ?_
  exact hk19 _ _ _ rx9 rx11 hW h
def L_X12_greatest_19 (p1 : Int) (p2 : Int) (p3 : Int) : Nat → Int → Int → HS → zO2
  | 0, _, _, _ => none
  | n + 1, v4, v5, S => 
    if v5 ≤ 0 then (
      some (v4, S))
    else (
      zl (v4 + v5) fun x5 =>
      zb (M_X12_reaching p1 p2 x5 S) fun r6 S7 =>
      if r6 < p3 then (
        J_X12_greatest_47 (L_X12_greatest_19 p1 p2 p3 n) p1 p2 p3 v5 0 v4 S7)
      else (
        J_X12_greatest_47 (L_X12_greatest_19 p1 p2 p3 n) p1 p2 p3 v5 v5 v4 S7))
set_option maxHeartbeats 4000000 in
set_option maxRecDepth 20000 in
theorem TL_X12_greatest_19 {p1 : Int} {p2 : Int} {p3 : Int} {r : Int} {S' : HS} {z : Zt} (hz : zO z cX12_greatest RX12 3 shF) (hN : zN z 6) (hF : zFi z shF .int r S') (rp1 : rng p1) (rp2 : rng p2) (rp3 : rng p3) : ∀ (n : Nat) {v4 : Int} {v5 : Int} {S : HS}, rng v4 → rng v5 → WR shF S → L_X12_greatest_19 p1 p2 p3 n v4 v5 S = some (r, S') → zA z 19 [(0, aR 51), (1, aI p1), (2, aI p2), (3, aI p3), (4, aI v4), (5, aI v5)] [] S := by
  intro n
  induction n with
  | zero =>
    intro _ _ _ _ _ _ h
    cases h
  | succ n ih =>
    intro v4 v5 S rv4 rv5 hW h
    rw [L_X12_greatest_19.eq_2] at h
    refine s_iload 5 hz dX12_greatest_19 rfl ?_
    refine s_if_le 59 hz rv5 dX12_greatest_21 rfl (fun c4 => ?_) (fun c4 => ?_)
    · have h := zif_t c4 h
      refine s_iload 4 hz dX12_greatest_59 rfl ?_
      exact s_iret h hz hF rv4 hW dX12_greatest_61
    · have h := zif_f c4 h
      refine s_iload 4 hz dX12_greatest_24 rfl ?_
      refine s_aload_n 0 hz dX12_greatest_26 rfl ?_
      refine s_iload_n 1 hz dX12_greatest_27 rfl ?_
      refine s_iload_n 2 hz dX12_greatest_28 rfl ?_
      refine s_iload 4 hz dX12_greatest_29 rfl ?_
      refine s_iload 5 hz dX12_greatest_31 rfl ?_
      refine s_iadd hz dX12_greatest_33 ?_
      obtain ⟨x5, ex5, rx5, h⟩ := zl_ex h
      rw [← ex5]
      obtain ⟨r6, S7, hc7, h⟩ := zb_of h
      refine s_callV [aI p1, aI p2, aI x5] [aI v4] hz ml_X12_395 sv_yX12_reaching (T_X12_reaching rp1 rp2 rx5 hW hc7) (by decide) rfl sf51 rfl rfl (Nat.le_of_ble_eq_true rfl) dX12_greatest_34 (fun rr6 hW7 => ?_)
      refine s_iload_n 3 hz dX12_greatest_37 rfl ?_
      refine s_icmp_lt 46 hz rr6 rp3 dX12_greatest_38 rfl (fun c8 => ?_) (fun c8 => ?_)
      · have h := zif_t c8 h
        refine s_iconst hz dX12_greatest_46 ?_
        refine s_pick (l' := [(0, aR 51), (1, aI p1), (2, aI p2), (3, aI p3), (5, aI v5)]) [0, 1, 2, 3, 5] rfl ?_
        exact TJ_X12_greatest_47 hz hN hF (fun _ _ _ => ih) rp1 rp2 rp3 rv5 rl_0 rv4 hW7 h
      · have h := zif_f c8 h
        refine s_iload 5 hz dX12_greatest_41 rfl ?_
        refine s_goto 47 hz dX12_greatest_43 rfl ?_
        refine s_pick (l' := [(0, aR 51), (1, aI p1), (2, aI p2), (3, aI p3), (5, aI v5)]) [0, 1, 2, 3, 5] rfl ?_
        exact TJ_X12_greatest_47 hz hN hF (fun _ _ _ => ih) rp1 rp2 rp3 rv5 rv5 rv4 hW7 h
def M_X12_greatest (a1 : Int) (a2 : Int) (a3 : Int) (S : HS) : zO2 :=
  zb (M_X12_reaching a1 a2 0 S) fun r1 S2 =>
  if r1 < a3 then (
    some (0, S2))
  else (
    L_X12_greatest_19 a1 a2 a3 zBig 0 1024 S2)
set_option maxHeartbeats 4000000 in
set_option maxRecDepth 20000 in
theorem T_X12_greatest {a1 : Int} {a2 : Int} {a3 : Int} {S S' : HS} {r : Int} (ra1 : rng a1) (ra2 : rng a2) (ra3 : rng a3) (hW : WR shF S) (h : M_X12_greatest a1 a2 a3 S = some (r, S')) : zR shF yX12_greatest cX12_greatest 6  .int 3 [aR 51, aI a1, aI a2, aI a3] S r S' := by
  refine zR_of (by decide +kernel) (Nat.le_of_ble_eq_true rfl) (fun z hz hN hF => ?_)
  have hz : zO z cX12_greatest RX12 3 shF := hz
  show zA z 0 [(0, aR 51), (1, aI a1), (2, aI a2), (3, aI a3)] [] S
  unfold M_X12_greatest at h
  refine s_iconst hz dX12_greatest_0 ?_
  refine s_istore (l' := [(4, aI 0), (0, aR 51), (1, aI a1), (2, aI a2), (3, aI a3)]) hz hN dX12_greatest_1 (by decide) rfl ?_
  refine s_aload_n 1 hz dX12_greatest_3 rfl ?_
  refine s_iload_n 2 hz dX12_greatest_4 rfl ?_
  refine s_iload_n 3 hz dX12_greatest_5 rfl ?_
  refine s_iconst hz dX12_greatest_6 ?_
  obtain ⟨r1, S2, hc2, h⟩ := zb_of h
  refine s_callV [aI a1, aI a2, aI 0] [] hz ml_X12_395 sv_yX12_reaching (T_X12_reaching ra1 ra2 rl_0 hW hc2) (by decide) rfl sf51 rfl rfl (Nat.le_of_ble_eq_true rfl) dX12_greatest_7 (fun rr1 hW2 => ?_)
  refine s_iload_n 4 hz dX12_greatest_10 rfl ?_
  refine s_icmp_lt 59 hz rr1 ra3 dX12_greatest_11 rfl (fun c3 => ?_) (fun c3 => ?_)
  · have h := zif_t c3 h
    refine s_iload 0 hz dX12_greatest_59 rfl ?_
    exact s_iret h hz hF rl_0 hW2 dX12_greatest_61
  · have h := zif_f c3 h
    refine s_sipush hz dX12_greatest_14 sp_1024 ?_
    refine s_istore (l' := [(5, aI 1024), (4, aI 0), (0, aR 51), (1, aI a1), (2, aI a2), (3, aI a3)]) hz hN dX12_greatest_17 (by decide) rfl ?_
    refine s_pick (l' := [(0, aR 51), (1, aI a1), (2, aI a2), (3, aI a3), (4, aI 0), (5, aI 1024)]) [2, 3, 4, 5, 1, 0] rfl ?_
    exact TL_X12_greatest_19 hz hN hF ra1 ra2 ra3 zBig rl_0 rl_1024 hW2 h
def L_X12_hangsAlone_15 (p1 : Int) : Nat → Int → Int → HS → zO2
  | 0, _, _, _ => none
  | n + 1, v2, v3, S => 
    if 3 ≤ v3 then (
      some (v2, S))
    else (
      zb (M_X12_greatest p1 v3 3 S) fun r6 S7 =>
      zb (M_X12_least v2 r6 S7) fun r8 S9 =>
      zl (v3 + 1) fun x10 =>
      L_X12_hangsAlone_15 p1 n r8 x10 S9)
set_option maxHeartbeats 4000000 in
set_option maxRecDepth 20000 in
theorem TL_X12_hangsAlone_15 {p1 : Int} {r : Int} {S' : HS} {z : Zt} (hz : zO z cX12_hangsAlone RX12 8 shF) (hN : zN z 4) (hF : zFi z shF .int r S') (rp1 : rng p1) : ∀ (n : Nat) {v2 : Int} {v3 : Int} {S : HS}, rng v2 → rng v3 → WR shF S → L_X12_hangsAlone_15 p1 n v2 v3 S = some (r, S') → zA z 15 [(0, aR 51), (1, aI p1), (2, aI v2), (3, aI v3)] [] S := by
  intro n
  induction n with
  | zero =>
    intro _ _ _ _ _ _ h
    cases h
  | succ n ih =>
    intro v2 v3 S rv2 rv3 hW h
    rw [L_X12_hangsAlone_15.eq_2] at h
    refine s_iload_n 3 hz dX12_hangsAlone_15 rfl ?_
    refine s_iconst hz dX12_hangsAlone_16 ?_
    refine s_icmp_ge 38 hz rv3 rl_3 dX12_hangsAlone_17 rfl (fun c5 => ?_) (fun c5 => ?_)
    · have h := zif_t c5 h
      refine s_iload_n 2 hz dX12_hangsAlone_38 rfl ?_
      exact s_iret h hz hF rv2 hW dX12_hangsAlone_39
    · have h := zif_f c5 h
      refine s_iload_n 2 hz dX12_hangsAlone_20 rfl ?_
      refine s_aload_n 0 hz dX12_hangsAlone_21 rfl ?_
      refine s_iload_n 1 hz dX12_hangsAlone_22 rfl ?_
      refine s_iload_n 3 hz dX12_hangsAlone_23 rfl ?_
      refine s_iconst hz dX12_hangsAlone_24 ?_
      obtain ⟨r6, S7, hc7, h⟩ := zb_of h
      refine s_callV [aI p1, aI v3, aI 3] [aI v2] hz ml_X12_398 sv_yX12_greatest (T_X12_greatest rp1 rv3 rl_3 hW hc7) (by decide) rfl sf51 rfl rfl (Nat.le_of_ble_eq_true rfl) dX12_hangsAlone_25 (fun rr6 hW7 => ?_)
      obtain ⟨r8, S9, hc9, h⟩ := zb_of h
      refine s_callS [aI v2, aI r6] [] hz ml_X12_289 ss_yX12_least (T_X12_least rv2 rr6 hW7 hc9) (by decide) rfl rfl (Nat.le_of_ble_eq_true rfl) dX12_hangsAlone_28 (fun rr8 hW9 => ?_)
      refine s_istore_n (l' := [(2, aI r8), (0, aR 51), (1, aI p1), (3, aI v3)]) hz hN dX12_hangsAlone_31 (by decide) rfl ?_
      obtain ⟨x10, ex10, rx10, h⟩ := zl_ex h
      refine s_iinc (k0 := 3) (y := x10) (l' := [(3, aI x10), (2, aI r8), (0, aR 51), (1, aI p1)]) hz hN dX12_hangsAlone_32 rfl ex10.symm (by decide) rfl ?_
      refine s_goto 15 hz dX12_hangsAlone_35 rfl ?_
      refine s_pick (l' := [(0, aR 51), (1, aI p1), (2, aI r8), (3, aI x10)]) [2, 3, 1, 0] rfl ?_
      exact ih rr8 rx10 hW9 h
def M_X12_hangsAlone (a1 : Int) (S : HS) : zO2 :=
  zb (M_X12_braids a1 S) fun _ S2 =>
  zb (M_X12_greatest a1 0 3 S2) fun r3 S4 =>
  L_X12_hangsAlone_15 a1 zBig r3 1 S4
set_option maxHeartbeats 4000000 in
set_option maxRecDepth 20000 in
theorem T_X12_hangsAlone {a1 : Int} {S S' : HS} {r : Int} (ra1 : rng a1) (hW : WR shF S) (h : M_X12_hangsAlone a1 S = some (r, S')) : zR shF yX12_hangsAlone cX12_hangsAlone 4  .int 8 [aR 51, aI a1] S r S' := by
  refine zR_of (by decide +kernel) (Nat.le_of_ble_eq_true rfl) (fun z hz hN hF => ?_)
  have hz : zO z cX12_hangsAlone RX12 8 shF := hz
  show zA z 0 [(0, aR 51), (1, aI a1)] [] S
  unfold M_X12_hangsAlone at h
  refine s_aload_n 0 hz dX12_hangsAlone_0 rfl ?_
  refine s_iload_n 1 hz dX12_hangsAlone_1 rfl ?_
  obtain ⟨r1, S2, hc2, h⟩ := zb_of h
  refine s_callVv [aI a1] [] hz ml_X12_383 sv_yX12_braids (T_X12_braids ra1 hW hc2) (by decide) rfl sf51 rfl rfl (Nat.le_of_ble_eq_true rfl) dX12_hangsAlone_2 (fun hW2 => ?_)
  refine s_aload_n 0 hz dX12_hangsAlone_5 rfl ?_
  refine s_iload_n 1 hz dX12_hangsAlone_6 rfl ?_
  refine s_iconst hz dX12_hangsAlone_7 ?_
  refine s_iconst hz dX12_hangsAlone_8 ?_
  obtain ⟨r3, S4, hc4, h⟩ := zb_of h
  refine s_callV [aI a1, aI 0, aI 3] [] hz ml_X12_398 sv_yX12_greatest (T_X12_greatest ra1 rl_0 rl_3 hW2 hc4) (by decide) rfl sf51 rfl rfl (Nat.le_of_ble_eq_true rfl) dX12_hangsAlone_9 (fun rr3 hW4 => ?_)
  refine s_istore_n (l' := [(2, aI r3), (0, aR 51), (1, aI a1)]) hz hN dX12_hangsAlone_12 (by decide) rfl ?_
  refine s_iconst hz dX12_hangsAlone_13 ?_
  refine s_istore_n (l' := [(3, aI 1), (2, aI r3), (0, aR 51), (1, aI a1)]) hz hN dX12_hangsAlone_14 (by decide) rfl ?_
  refine s_pick (l' := [(0, aR 51), (1, aI a1), (2, aI r3), (3, aI 1)]) [2, 3, 1, 0] rfl ?_
  exact TL_X12_hangsAlone_15 hz hN hF ra1 zBig rr3 rl_1 hW4 h
def J_X12_hangs_77 (k36 : Int → Int → HS → zO2) (v1 : Int) (v2 : Int) (v3 : Int) (S : HS) : zO2 :=
  zl (v3 + 1) fun x11 =>
  k36 v2 x11 S
set_option maxHeartbeats 4000000 in
set_option maxRecDepth 20000 in
theorem TJ_X12_hangs_77 {k36 : Int → Int → HS → zO2} {v1 : Int} {v2 : Int} {v3 : Int} {S : HS} {r : Int} {S' : HS} {z : Zt} (hz : zO z cX12_hangs RX12 9 shF) (hN : zN z 4) (hF : zFi z shF .int r S') (hk36 : ∀ (w2 w3 : Int) (S : HS), rng w2 → rng w3 → WR shF S → k36 w2 w3 S = some (r, S') → zA z 36 [(0, aR 51), (1, aI v1), (2, aI w2), (3, aI w3)] [] S) (rv1 : rng v1) (rv2 : rng v2) (rv3 : rng v3) (hW : WR shF S) (h : J_X12_hangs_77 k36 v1 v2 v3 S = some (r, S')) : zA z 77 [(0, aR 51), (1, aI v1), (2, aI v2), (3, aI v3)] [] S := by
  unfold J_X12_hangs_77 at h
  obtain ⟨x11, ex11, rx11, h⟩ := zl_ex h
  refine s_iinc (k0 := 3) (y := x11) (l' := [(3, aI x11), (0, aR 51), (1, aI v1), (2, aI v2)]) hz hN dX12_hangs_77 rfl ex11.symm (by decide) rfl ?_
  refine s_goto 36 hz dX12_hangs_80 rfl ?_
  refine s_pick (l' := [(0, aR 51), (1, aI v1), (2, aI v2), (3, aI x11)]) [1, 2, 3, 0] rfl ?_
  exact hk36 _ _ _ rv2 rx11 hW h
def L_X12_hangs_36 (p1 : Int) : Nat → Int → Int → HS → zO2
  | 0, _, _, _ => none
  | n + 1, v2, v3, S => 
    if S 51 27 ≤ v3 then (
      some (v2, S))
    else (
      zg ((0 : Int) ≤ v3 ∧ v3 < 24) <|
      zg ((0 : Int) ≤ p1 ∧ p1 < 24) <|
      if S 72 v3 = S 72 p1 then (
        zb (M_X12_braids v3 S) fun _ S13 =>
        zb (M_X12_greatest v3 (-1) 9 S13) fun r14 S15 =>
        zb (M_X12_least v2 r14 S15) fun r16 S17 =>
        J_X12_hangs_77 (L_X12_hangs_36 p1 n) p1 r16 v3 S17)
      else (
        J_X12_hangs_77 (L_X12_hangs_36 p1 n) p1 v2 v3 S))
set_option maxHeartbeats 4000000 in
set_option maxRecDepth 20000 in
theorem TL_X12_hangs_36 {p1 : Int} {r : Int} {S' : HS} {z : Zt} (hz : zO z cX12_hangs RX12 9 shF) (hN : zN z 4) (hF : zFi z shF .int r S') (rp1 : rng p1) : ∀ (n : Nat) {v2 : Int} {v3 : Int} {S : HS}, rng v2 → rng v3 → WR shF S → L_X12_hangs_36 p1 n v2 v3 S = some (r, S') → zA z 36 [(0, aR 51), (1, aI p1), (2, aI v2), (3, aI v3)] [] S := by
  intro n
  induction n with
  | zero =>
    intro _ _ _ _ _ _ h
    cases h
  | succ n ih =>
    intro v2 v3 S rv2 rv3 hW h
    rw [L_X12_hangs_36.eq_2] at h
    refine s_iload_n 3 hz dX12_hangs_36 rfl ?_
    refine s_aload_n 0 hz dX12_hangs_37 rfl ?_
    refine s_getI (kz := 27) 27 hz fl_X12_256 sf51 rfl rfl dX12_hangs_38 ?_
    refine s_icmp_ge 83 hz rv3 (hW 51 _ sf51 27) dX12_hangs_41 rfl (fun c7 => ?_) (fun c7 => ?_)
    · have h := zif_t c7 h
      refine s_iload_n 2 hz dX12_hangs_83 rfl ?_
      exact s_iret h hz hF rv2 hW dX12_hangs_84
    · have h := zif_f c7 h
      refine s_aload_n 0 hz dX12_hangs_44 rfl ?_
      refine s_getR 33 hz fl_X12_99 sf51 rfl (by decide) dX12_hangs_45 ?_
      refine s_iload_n 3 hz dX12_hangs_48 rfl ?_
      obtain ⟨g8, h⟩ := zg_of h
      refine s_iald hz sf72 rfl (by decide) g8 dX12_hangs_49 ?_
      refine s_aload_n 0 hz dX12_hangs_50 rfl ?_
      refine s_getR 33 hz fl_X12_99 sf51 rfl (by decide) dX12_hangs_51 ?_
      refine s_iload_n 1 hz dX12_hangs_54 rfl ?_
      obtain ⟨g9, h⟩ := zg_of h
      refine s_iald hz sf72 rfl (by decide) g9 dX12_hangs_55 ?_
      refine s_icmp_ne 77 hz (hW 72 _ sf72 v3) (hW 72 _ sf72 p1) dX12_hangs_56 rfl (fun c10 => ?_) (fun c10 => ?_)
      · have h := zif_f c10 h
        exact TJ_X12_hangs_77 hz hN hF (fun _ _ _ => ih) rp1 rv2 rv3 hW h
      · have h := zif_t c10 h
        refine s_aload_n 0 hz dX12_hangs_59 rfl ?_
        refine s_iload_n 3 hz dX12_hangs_60 rfl ?_
        obtain ⟨r12, S13, hc13, h⟩ := zb_of h
        refine s_callVv [aI v3] [] hz ml_X12_383 sv_yX12_braids (T_X12_braids rv3 hW hc13) (by decide) rfl sf51 rfl rfl (Nat.le_of_ble_eq_true rfl) dX12_hangs_61 (fun hW13 => ?_)
        refine s_iload_n 2 hz dX12_hangs_64 rfl ?_
        refine s_aload_n 0 hz dX12_hangs_65 rfl ?_
        refine s_iload_n 3 hz dX12_hangs_66 rfl ?_
        refine s_iconst hz dX12_hangs_67 ?_
        refine s_bipush hz dX12_hangs_68 bp_9 ?_
        obtain ⟨r14, S15, hc15, h⟩ := zb_of h
        refine s_callV [aI v3, aI (-1), aI 9] [aI v2] hz ml_X12_398 sv_yX12_greatest (T_X12_greatest rv3 rl_m1 rl_9 hW13 hc15) (by decide) rfl sf51 rfl rfl (Nat.le_of_ble_eq_true rfl) dX12_hangs_70 (fun rr14 hW15 => ?_)
        obtain ⟨r16, S17, hc17, h⟩ := zb_of h
        refine s_callS [aI v2, aI r14] [] hz ml_X12_289 ss_yX12_least (T_X12_least rv2 rr14 hW15 hc17) (by decide) rfl rfl (Nat.le_of_ble_eq_true rfl) dX12_hangs_73 (fun rr16 hW17 => ?_)
        refine s_istore_n (l' := [(2, aI r16), (0, aR 51), (1, aI p1), (3, aI v3)]) hz hN dX12_hangs_76 (by decide) rfl ?_
        refine s_pick (l' := [(0, aR 51), (1, aI p1), (2, aI r16), (3, aI v3)]) [1, 2, 0, 3] rfl ?_
        exact TJ_X12_hangs_77 hz hN hF (fun _ _ _ => ih) rp1 rr16 rv3 hW17 h
def M_X12_hangs (a1 : Int) (S : HS) : zO2 :=
  zs (up S 51 0 0) fun S1 =>
  zb (M_X12_isRow a1 S1) fun r2 S3 =>
  if r2 = 0 then (
    some ((-1), S3))
  else (
    zg ((0 : Int) ≤ a1 ∧ a1 < 24) <|
    if 0 ≤ S3 72 a1 then (
      L_X12_hangs_36 a1 zBig 2000 0 S3)
    else (
      zb (M_X12_hangsAlone a1 S3) fun r18 S19 =>
      some (r18, S19)))
set_option maxHeartbeats 4000000 in
set_option maxRecDepth 20000 in
theorem T_X12_hangs {a1 : Int} {S S' : HS} {r : Int} (ra1 : rng a1) (hW : WR shF S) (h : M_X12_hangs a1 S = some (r, S')) : zR shF yX12_hangs cX12_hangs 4  .int 9 [aR 51, aI a1] S r S' := by
  refine zR_of (by decide +kernel) (Nat.le_of_ble_eq_true rfl) (fun z hz hN hF => ?_)
  have hz : zO z cX12_hangs RX12 9 shF := hz
  show zA z 0 [(0, aR 51), (1, aI a1)] [] S
  unfold M_X12_hangs at h
  refine s_aload_n 0 hz dX12_hangs_0 rfl ?_
  refine s_iconst hz dX12_hangs_1 ?_
  obtain ⟨S1, eS1, h⟩ := zs_ex h
  have hW1 : WR shF S1 := by rw [eS1]; exact hW.up (i := 0) sf51 (v := 0) rl_0
  refine s_putI (kz := 0) 0 hz fp_X12_1 sf51 rfl rfl dX12_hangs_2 ?_
  rw [← eS1]
  refine s_aload_n 0 hz dX12_hangs_5 rfl ?_
  refine s_iload_n 1 hz dX12_hangs_6 rfl ?_
  obtain ⟨r2, S3, hc3, h⟩ := zb_of h
  refine s_callV [aI a1] [] hz ml_X12_389 sv_yX12_isRow (T_X12_isRow ra1 hW1 hc3) (by decide) rfl sf51 rfl rfl (Nat.le_of_ble_eq_true rfl) dX12_hangs_7 (fun rr2 hW3 => ?_)
  refine s_if_ne 15 hz rr2 dX12_hangs_10 rfl (fun c4 => ?_) (fun c4 => ?_)
  · have h := zif_f c4 h
    refine s_aload_n 0 hz dX12_hangs_15 rfl ?_
    refine s_getR 33 hz fl_X12_99 sf51 rfl (by decide) dX12_hangs_16 ?_
    refine s_iload_n 1 hz dX12_hangs_19 rfl ?_
    obtain ⟨g5, h⟩ := zg_of h
    refine s_iald hz sf72 rfl (by decide) g5 dX12_hangs_20 ?_
    refine s_if_ge 30 hz (hW3 72 _ sf72 a1) dX12_hangs_21 rfl (fun c6 => ?_) (fun c6 => ?_)
    · have h := zif_t c6 h
      refine s_sipush hz dX12_hangs_30 sp_2000 ?_
      refine s_istore_n (l' := [(2, aI 2000), (0, aR 51), (1, aI a1)]) hz hN dX12_hangs_33 (by decide) rfl ?_
      refine s_iconst hz dX12_hangs_34 ?_
      refine s_istore_n (l' := [(3, aI 0), (2, aI 2000), (0, aR 51), (1, aI a1)]) hz hN dX12_hangs_35 (by decide) rfl ?_
      refine s_pick (l' := [(0, aR 51), (1, aI a1), (2, aI 2000), (3, aI 0)]) [2, 3, 1, 0] rfl ?_
      exact TL_X12_hangs_36 hz hN hF ra1 zBig rl_2000 rl_0 hW3 h
    · have h := zif_f c6 h
      refine s_aload_n 0 hz dX12_hangs_24 rfl ?_
      refine s_iload_n 1 hz dX12_hangs_25 rfl ?_
      obtain ⟨r18, S19, hc19, h⟩ := zb_of h
      refine s_callV [aI a1] [] hz ml_X12_401 sv_yX12_hangsAlone (T_X12_hangsAlone ra1 hW3 hc19) (by decide) rfl sf51 rfl rfl (Nat.le_of_ble_eq_true rfl) dX12_hangs_26 (fun rr18 hW19 => ?_)
      exact s_iret h hz hF rr18 hW19 dX12_hangs_29
  · have h := zif_t c4 h
    refine s_iconst hz dX12_hangs_13 ?_
    exact s_iret h hz hF rl_m1 hW3 dX12_hangs_14
def M_X12_areNear (a1 : Int) (a2 : Int) (S : HS) : zO2 :=
  zg ((0 : Int) ≤ a1 ∧ a1 < 24) <|
  zg ((0 : Int) ≤ ((192 * a1) + (S 69 a1)) - 1 ∧ ((192 * a1) + (S 69 a1)) - 1 < 4608) <|
  zg ((0 : Int) ≤ a2 ∧ a2 < 24) <|
  zg ((0 : Int) ≤ ((192 * a2) + (S 69 a2)) - 1 ∧ ((192 * a2) + (S 69 a2)) - 1 < 4608) <|
  zg ((0 : Int) ≤ S 70 (((192 * a1) + (S 69 a1)) - 1) ∧ (0 : Int) < 16) <|
  zg ((0 : Int) ≤ S 70 (((192 * a2) + (S 69 a2)) - 1) ∧ (0 : Int) < 16) <|
  zl (((S 70 (((192 * a1) + (S 69 a1)) - 1)) % 16) - ((S 70 (((192 * a2) + (S 69 a2)) - 1)) % 16)) fun x7 =>
  zg ((0 : Int) ≤ S 70 (((192 * a1) + (S 69 a1)) - 1) ∧ (0 : Int) < 16) <|
  zg ((0 : Int) ≤ S 70 (((192 * a2) + (S 69 a2)) - 1) ∧ (0 : Int) < 16) <|
  zl (((S 70 (((192 * a1) + (S 69 a1)) - 1)) / 16) - ((S 70 (((192 * a2) + (S 69 a2)) - 1)) / 16)) fun x10 =>
  if 2 < x7 then (
    some (0, S))
  else (
    if x7 < (-2) then (
      some (0, S))
    else (
      if 2 < x10 then (
        some (0, S))
      else (
        if x10 < (-2) then (
          some (0, S))
        else (
          some (1, S)))))
set_option maxHeartbeats 4000000 in
set_option maxRecDepth 20000 in
theorem T_X12_areNear {a1 : Int} {a2 : Int} {S S' : HS} {r : Int} (ra1 : rng a1) (ra2 : rng a2) (hW : WR shF S) (h : M_X12_areNear a1 a2 S = some (r, S')) : zR shF yX12_areNear cX12_areNear 7  .boolean 1 [aR 51, aI a1, aI a2] S r S' := by
  refine zR_of (by decide +kernel) (Nat.le_of_ble_eq_true rfl) (fun z hz hN hF => ?_)
  have hz : zO z cX12_areNear RX12 1 shF := hz
  show zA z 0 [(0, aR 51), (1, aI a1), (2, aI a2)] [] S
  unfold M_X12_areNear at h
  refine s_aload_n 0 hz dX12_areNear_0 rfl ?_
  refine s_getR 31 hz fl_X12_93 sf51 rfl (by decide) dX12_areNear_1 ?_
  refine s_sipush hz dX12_areNear_4 sp_192 ?_
  refine s_iload_n 1 hz dX12_areNear_7 rfl ?_
  refine s_imul hz dX12_areNear_8 ?_
  refine s_aload_n 0 hz dX12_areNear_9 rfl ?_
  refine s_getR 30 hz fl_X12_90 sf51 rfl (by decide) dX12_areNear_10 ?_
  refine s_iload_n 1 hz dX12_areNear_13 rfl ?_
  obtain ⟨g1, h⟩ := zg_of h
  refine s_iald hz sf69 rfl (by decide) g1 dX12_areNear_14 ?_
  refine s_iadd hz dX12_areNear_15 ?_
  refine s_iconst hz dX12_areNear_16 ?_
  refine s_isub hz dX12_areNear_17 ?_
  obtain ⟨g2, h⟩ := zg_of h
  refine s_iald hz sf70 rfl (by decide) g2 dX12_areNear_18 ?_
  refine s_istore_n (l' := [(3, aI (S 70 (((192 * a1) + (S 69 a1)) - 1))), (0, aR 51), (1, aI a1), (2, aI a2)]) hz hN dX12_areNear_19 (by decide) rfl ?_
  refine s_aload_n 1 hz dX12_areNear_20 rfl ?_
  refine s_getR 31 hz fl_X12_93 sf51 rfl (by decide) dX12_areNear_21 ?_
  refine s_sipush hz dX12_areNear_24 sp_192 ?_
  refine s_iload_n 3 hz dX12_areNear_27 rfl ?_
  refine s_imul hz dX12_areNear_28 ?_
  refine s_aload_n 1 hz dX12_areNear_29 rfl ?_
  refine s_getR 30 hz fl_X12_90 sf51 rfl (by decide) dX12_areNear_30 ?_
  refine s_iload_n 3 hz dX12_areNear_33 rfl ?_
  obtain ⟨g3, h⟩ := zg_of h
  refine s_iald hz sf69 rfl (by decide) g3 dX12_areNear_34 ?_
  refine s_iadd hz dX12_areNear_35 ?_
  refine s_iconst hz dX12_areNear_36 ?_
  refine s_isub hz dX12_areNear_37 ?_
  obtain ⟨g4, h⟩ := zg_of h
  refine s_iald hz sf70 rfl (by decide) g4 dX12_areNear_38 ?_
  refine s_istore (l' := [(4, aI (S 70 (((192 * a2) + (S 69 a2)) - 1))), (3, aI (S 70 (((192 * a1) + (S 69 a1)) - 1))), (0, aR 51), (1, aI a1), (2, aI a2)]) hz hN dX12_areNear_39 (by decide) rfl ?_
  refine s_iload_n 1 hz dX12_areNear_41 rfl ?_
  refine s_bipush hz dX12_areNear_42 bp_16 ?_
  obtain ⟨g5, h⟩ := zg_of h
  refine s_irem hz g5.1 g5.2 (hW 70 _ sf70 (((192 * a1) + (S 69 a1)) - 1)) rl_16 dX12_areNear_44 ?_
  refine s_iload 0 hz dX12_areNear_45 rfl ?_
  refine s_bipush hz dX12_areNear_47 bp_16 ?_
  obtain ⟨g6, h⟩ := zg_of h
  refine s_irem hz g6.1 g6.2 (hW 70 _ sf70 (((192 * a2) + (S 69 a2)) - 1)) rl_16 dX12_areNear_49 ?_
  refine s_isub hz dX12_areNear_50 ?_
  obtain ⟨x7, ex7, rx7, h⟩ := zl_ex h
  rw [← ex7]
  refine s_istore (l' := [(5, aI x7), (4, aI (S 70 (((192 * a2) + (S 69 a2)) - 1))), (3, aI (S 70 (((192 * a1) + (S 69 a1)) - 1))), (0, aR 51), (1, aI a1), (2, aI a2)]) hz hN dX12_areNear_51 (by decide) rfl ?_
  refine s_iload_n 2 hz dX12_areNear_53 rfl ?_
  refine s_bipush hz dX12_areNear_54 bp_16 ?_
  obtain ⟨g8, h⟩ := zg_of h
  refine s_idiv hz g8.1 g8.2 (hW 70 _ sf70 (((192 * a1) + (S 69 a1)) - 1)) rl_16 dX12_areNear_56 ?_
  refine s_iload 1 hz dX12_areNear_57 rfl ?_
  refine s_bipush hz dX12_areNear_59 bp_16 ?_
  obtain ⟨g9, h⟩ := zg_of h
  refine s_idiv hz g9.1 g9.2 (hW 70 _ sf70 (((192 * a2) + (S 69 a2)) - 1)) rl_16 dX12_areNear_61 ?_
  refine s_isub hz dX12_areNear_62 ?_
  obtain ⟨x10, ex10, rx10, h⟩ := zl_ex h
  rw [← ex10]
  refine s_istore (l' := [(6, aI x10), (5, aI x7), (4, aI (S 70 (((192 * a2) + (S 69 a2)) - 1))), (3, aI (S 70 (((192 * a1) + (S 69 a1)) - 1))), (0, aR 51), (1, aI a1), (2, aI a2)]) hz hN dX12_areNear_63 (by decide) rfl ?_
  refine s_iload 1 hz dX12_areNear_65 rfl ?_
  refine s_iconst hz dX12_areNear_67 ?_
  refine s_icmp_gt 95 hz rx7 rl_2 dX12_areNear_68 rfl (fun c11 => ?_) (fun c11 => ?_)
  · have h := zif_t c11 h
    refine s_iconst hz dX12_areNear_95 ?_
    exact s_zret h hz hF (by decide) hW dX12_areNear_96
  · have h := zif_f c11 h
    refine s_iload 1 hz dX12_areNear_71 rfl ?_
    refine s_bipush hz dX12_areNear_73 bp_m2 ?_
    refine s_icmp_lt 95 hz rx7 rl_m2 dX12_areNear_75 rfl (fun c12 => ?_) (fun c12 => ?_)
    · have h := zif_t c12 h
      refine s_iconst hz dX12_areNear_95 ?_
      exact s_zret h hz hF (by decide) hW dX12_areNear_96
    · have h := zif_f c12 h
      refine s_iload 0 hz dX12_areNear_78 rfl ?_
      refine s_iconst hz dX12_areNear_80 ?_
      refine s_icmp_gt 95 hz rx10 rl_2 dX12_areNear_81 rfl (fun c13 => ?_) (fun c13 => ?_)
      · have h := zif_t c13 h
        refine s_iconst hz dX12_areNear_95 ?_
        exact s_zret h hz hF (by decide) hW dX12_areNear_96
      · have h := zif_f c13 h
        refine s_iload 0 hz dX12_areNear_84 rfl ?_
        refine s_bipush hz dX12_areNear_86 bp_m2 ?_
        refine s_icmp_lt 95 hz rx10 rl_m2 dX12_areNear_88 rfl (fun c14 => ?_) (fun c14 => ?_)
        · have h := zif_t c14 h
          refine s_iconst hz dX12_areNear_95 ?_
          exact s_zret h hz hF (by decide) hW dX12_areNear_96
        · have h := zif_f c14 h
          refine s_iconst hz dX12_areNear_91 ?_
          refine s_goto 96 hz dX12_areNear_92 rfl ?_
          exact s_zret h hz hF (by decide) hW dX12_areNear_96
def M_X12_join (a1 : Int) (a2 : Int) (a3 : Int) (S : HS) : zO2 :=
  zs (up S 51 0 0) fun S1 =>
  zb (M_X12_isRow a1 S1) fun r2 S3 =>
  if r2 = 0 then (
    some ((-1), S3))
  else (
    zb (M_X12_isRow a2 S3) fun r5 S6 =>
    if r5 = 0 then (
      some ((-1), S6))
    else (
      zb (M_X12_isRow a3 S6) fun r8 S9 =>
      if r8 = 0 then (
        some ((-1), S9))
      else (
        if a1 = a2 then (
          some ((-1), S9))
        else (
          if a1 = a3 then (
            some ((-1), S9))
          else (
            if a2 = a3 then (
              some ((-1), S9))
            else (
              zg ((0 : Int) ≤ a1 ∧ a1 < 24) <|
              if 0 ≤ S9 72 a1 then (
                some ((-1), S9))
              else (
                zg ((0 : Int) ≤ a2 ∧ a2 < 24) <|
                if 0 ≤ S9 72 a2 then (
                  some ((-1), S9))
                else (
                  zg ((0 : Int) ≤ a3 ∧ a3 < 24) <|
                  if 0 ≤ S9 72 a3 then (
                    some ((-1), S9))
                  else (
                    zb (M_X12_areNear a1 a2 S9) fun r20 S21 =>
                    if r20 = 0 then (
                      some ((-1), S21))
                    else (
                      zb (M_X12_areNear a1 a3 S21) fun r23 S24 =>
                      if r23 = 0 then (
                        some ((-1), S24))
                      else (
                        zb (M_X12_areNear a2 a3 S24) fun r26 S27 =>
                        if r26 = 0 then (
                          some ((-1), S27))
                        else (
                          zg ((0 : Int) ≤ a1 ∧ a1 < 24) <|
                          zs (up S27 72 a1 (S27 51 54)) fun S30 =>
                          zg ((0 : Int) ≤ a2 ∧ a2 < 24) <|
                          zs (up S30 72 a2 (S30 51 54)) fun S32 =>
                          zg ((0 : Int) ≤ a3 ∧ a3 < 24) <|
                          zs (up S32 72 a3 (S32 51 54)) fun S34 =>
                          zl ((S34 51 54) + 1) fun x35 =>
                          zs (up S34 51 54 x35) fun S36 =>
                          some (S36 51 54, S36)))))))))))))
set_option maxHeartbeats 4000000 in
set_option maxRecDepth 20000 in
theorem T_X12_join {a1 : Int} {a2 : Int} {a3 : Int} {S S' : HS} {r : Int} (ra1 : rng a1) (ra2 : rng a2) (ra3 : rng a3) (hW : WR shF S) (h : M_X12_join a1 a2 a3 S = some (r, S')) : zR shF yX12_join cX12_join 4  .int 2 [aR 51, aI a1, aI a2, aI a3] S r S' := by
  refine zR_of (by decide +kernel) (Nat.le_of_ble_eq_true rfl) (fun z hz hN hF => ?_)
  have hz : zO z cX12_join RX12 2 shF := hz
  show zA z 0 [(0, aR 51), (1, aI a1), (2, aI a2), (3, aI a3)] [] S
  unfold M_X12_join at h
  refine s_aload_n 0 hz dX12_join_0 rfl ?_
  refine s_iconst hz dX12_join_1 ?_
  obtain ⟨S1, eS1, h⟩ := zs_ex h
  have hW1 : WR shF S1 := by rw [eS1]; exact hW.up (i := 0) sf51 (v := 0) rl_0
  refine s_putI (kz := 0) 0 hz fp_X12_1 sf51 rfl rfl dX12_join_2 ?_
  rw [← eS1]
  refine s_aload_n 0 hz dX12_join_5 rfl ?_
  refine s_iload_n 1 hz dX12_join_6 rfl ?_
  obtain ⟨r2, S3, hc3, h⟩ := zb_of h
  refine s_callV [aI a1] [] hz ml_X12_389 sv_yX12_isRow (T_X12_isRow ra1 hW1 hc3) (by decide) rfl sf51 rfl rfl (Nat.le_of_ble_eq_true rfl) dX12_join_7 (fun rr2 hW3 => ?_)
  refine s_if_eq 98 hz rr2 dX12_join_10 rfl (fun c4 => ?_) (fun c4 => ?_)
  · have h := zif_t c4 h
    refine s_iconst hz dX12_join_98 ?_
    exact s_iret h hz hF rl_m1 hW3 dX12_join_99
  · have h := zif_f c4 h
    refine s_aload_n 0 hz dX12_join_13 rfl ?_
    refine s_iload_n 2 hz dX12_join_14 rfl ?_
    obtain ⟨r5, S6, hc6, h⟩ := zb_of h
    refine s_callV [aI a2] [] hz ml_X12_389 sv_yX12_isRow (T_X12_isRow ra2 hW3 hc6) (by decide) rfl sf51 rfl rfl (Nat.le_of_ble_eq_true rfl) dX12_join_15 (fun rr5 hW6 => ?_)
    refine s_if_eq 98 hz rr5 dX12_join_18 rfl (fun c7 => ?_) (fun c7 => ?_)
    · have h := zif_t c7 h
      refine s_iconst hz dX12_join_98 ?_
      exact s_iret h hz hF rl_m1 hW6 dX12_join_99
    · have h := zif_f c7 h
      refine s_aload_n 0 hz dX12_join_21 rfl ?_
      refine s_iload_n 3 hz dX12_join_22 rfl ?_
      obtain ⟨r8, S9, hc9, h⟩ := zb_of h
      refine s_callV [aI a3] [] hz ml_X12_389 sv_yX12_isRow (T_X12_isRow ra3 hW6 hc9) (by decide) rfl sf51 rfl rfl (Nat.le_of_ble_eq_true rfl) dX12_join_23 (fun rr8 hW9 => ?_)
      refine s_if_eq 98 hz rr8 dX12_join_26 rfl (fun c10 => ?_) (fun c10 => ?_)
      · have h := zif_t c10 h
        refine s_iconst hz dX12_join_98 ?_
        exact s_iret h hz hF rl_m1 hW9 dX12_join_99
      · have h := zif_f c10 h
        refine s_iload_n 1 hz dX12_join_29 rfl ?_
        refine s_iload_n 2 hz dX12_join_30 rfl ?_
        refine s_icmp_eq 98 hz ra1 ra2 dX12_join_31 rfl (fun c11 => ?_) (fun c11 => ?_)
        · have h := zif_t c11 h
          refine s_iconst hz dX12_join_98 ?_
          exact s_iret h hz hF rl_m1 hW9 dX12_join_99
        · have h := zif_f c11 h
          refine s_iload_n 1 hz dX12_join_34 rfl ?_
          refine s_iload_n 3 hz dX12_join_35 rfl ?_
          refine s_icmp_eq 98 hz ra1 ra3 dX12_join_36 rfl (fun c12 => ?_) (fun c12 => ?_)
          · have h := zif_t c12 h
            refine s_iconst hz dX12_join_98 ?_
            exact s_iret h hz hF rl_m1 hW9 dX12_join_99
          · have h := zif_f c12 h
            refine s_iload_n 2 hz dX12_join_39 rfl ?_
            refine s_iload_n 3 hz dX12_join_40 rfl ?_
            refine s_icmp_eq 98 hz ra2 ra3 dX12_join_41 rfl (fun c13 => ?_) (fun c13 => ?_)
            · have h := zif_t c13 h
              refine s_iconst hz dX12_join_98 ?_
              exact s_iret h hz hF rl_m1 hW9 dX12_join_99
            · have h := zif_f c13 h
              refine s_aload_n 0 hz dX12_join_44 rfl ?_
              refine s_getR 33 hz fl_X12_99 sf51 rfl (by decide) dX12_join_45 ?_
              refine s_iload_n 1 hz dX12_join_48 rfl ?_
              obtain ⟨g14, h⟩ := zg_of h
              refine s_iald hz sf72 rfl (by decide) g14 dX12_join_49 ?_
              refine s_if_ge 98 hz (hW9 72 _ sf72 a1) dX12_join_50 rfl (fun c15 => ?_) (fun c15 => ?_)
              · have h := zif_t c15 h
                refine s_iconst hz dX12_join_98 ?_
                exact s_iret h hz hF rl_m1 hW9 dX12_join_99
              · have h := zif_f c15 h
                refine s_aload_n 0 hz dX12_join_53 rfl ?_
                refine s_getR 33 hz fl_X12_99 sf51 rfl (by decide) dX12_join_54 ?_
                refine s_iload_n 2 hz dX12_join_57 rfl ?_
                obtain ⟨g16, h⟩ := zg_of h
                refine s_iald hz sf72 rfl (by decide) g16 dX12_join_58 ?_
                refine s_if_ge 98 hz (hW9 72 _ sf72 a2) dX12_join_59 rfl (fun c17 => ?_) (fun c17 => ?_)
                · have h := zif_t c17 h
                  refine s_iconst hz dX12_join_98 ?_
                  exact s_iret h hz hF rl_m1 hW9 dX12_join_99
                · have h := zif_f c17 h
                  refine s_aload_n 0 hz dX12_join_62 rfl ?_
                  refine s_getR 33 hz fl_X12_99 sf51 rfl (by decide) dX12_join_63 ?_
                  refine s_iload_n 3 hz dX12_join_66 rfl ?_
                  obtain ⟨g18, h⟩ := zg_of h
                  refine s_iald hz sf72 rfl (by decide) g18 dX12_join_67 ?_
                  refine s_if_ge 98 hz (hW9 72 _ sf72 a3) dX12_join_68 rfl (fun c19 => ?_) (fun c19 => ?_)
                  · have h := zif_t c19 h
                    refine s_iconst hz dX12_join_98 ?_
                    exact s_iret h hz hF rl_m1 hW9 dX12_join_99
                  · have h := zif_f c19 h
                    refine s_aload_n 0 hz dX12_join_71 rfl ?_
                    refine s_iload_n 1 hz dX12_join_72 rfl ?_
                    refine s_iload_n 2 hz dX12_join_73 rfl ?_
                    obtain ⟨r20, S21, hc21, h⟩ := zb_of h
                    refine s_callV [aI a1, aI a2] [] hz ml_X12_404 sv_yX12_areNear (T_X12_areNear ra1 ra2 hW9 hc21) (by decide) rfl sf51 rfl rfl (Nat.le_of_ble_eq_true rfl) dX12_join_74 (fun rr20 hW21 => ?_)
                    refine s_if_eq 98 hz rr20 dX12_join_77 rfl (fun c22 => ?_) (fun c22 => ?_)
                    · have h := zif_t c22 h
                      refine s_iconst hz dX12_join_98 ?_
                      exact s_iret h hz hF rl_m1 hW21 dX12_join_99
                    · have h := zif_f c22 h
                      refine s_aload_n 0 hz dX12_join_80 rfl ?_
                      refine s_iload_n 1 hz dX12_join_81 rfl ?_
                      refine s_iload_n 3 hz dX12_join_82 rfl ?_
                      obtain ⟨r23, S24, hc24, h⟩ := zb_of h
                      refine s_callV [aI a1, aI a3] [] hz ml_X12_404 sv_yX12_areNear (T_X12_areNear ra1 ra3 hW21 hc24) (by decide) rfl sf51 rfl rfl (Nat.le_of_ble_eq_true rfl) dX12_join_83 (fun rr23 hW24 => ?_)
                      refine s_if_eq 98 hz rr23 dX12_join_86 rfl (fun c25 => ?_) (fun c25 => ?_)
                      · have h := zif_t c25 h
                        refine s_iconst hz dX12_join_98 ?_
                        exact s_iret h hz hF rl_m1 hW24 dX12_join_99
                      · have h := zif_f c25 h
                        refine s_aload_n 0 hz dX12_join_89 rfl ?_
                        refine s_iload_n 2 hz dX12_join_90 rfl ?_
                        refine s_iload_n 3 hz dX12_join_91 rfl ?_
                        obtain ⟨r26, S27, hc27, h⟩ := zb_of h
                        refine s_callV [aI a2, aI a3] [] hz ml_X12_404 sv_yX12_areNear (T_X12_areNear ra2 ra3 hW24 hc27) (by decide) rfl sf51 rfl rfl (Nat.le_of_ble_eq_true rfl) dX12_join_92 (fun rr26 hW27 => ?_)
                        refine s_if_ne 100 hz rr26 dX12_join_95 rfl (fun c28 => ?_) (fun c28 => ?_)
                        · have h := zif_f c28 h
                          refine s_aload_n 0 hz dX12_join_100 rfl ?_
                          refine s_getR 33 hz fl_X12_99 sf51 rfl (by decide) dX12_join_101 ?_
                          refine s_iload_n 1 hz dX12_join_104 rfl ?_
                          refine s_aload_n 0 hz dX12_join_105 rfl ?_
                          refine s_getI (kz := 54) 54 hz fl_X12_407 sf51 rfl rfl dX12_join_106 ?_
                          obtain ⟨g29, h⟩ := zg_of h
                          obtain ⟨S30, eS30, h⟩ := zs_ex h
                          have hW30 : WR shF S30 := by rw [eS30]; exact hW27.up (i := a1) sf72 (v := (S27 51 54)) (hW27 51 _ sf51 54)
                          refine s_iast hz sf72 rfl (by decide) g29 dX12_join_109 ?_
                          rw [← eS30]
                          refine s_aload_n 0 hz dX12_join_110 rfl ?_
                          refine s_getR 33 hz fl_X12_99 sf51 rfl (by decide) dX12_join_111 ?_
                          refine s_iload_n 2 hz dX12_join_114 rfl ?_
                          refine s_aload_n 0 hz dX12_join_115 rfl ?_
                          refine s_getI (kz := 54) 54 hz fl_X12_407 sf51 rfl rfl dX12_join_116 ?_
                          obtain ⟨g31, h⟩ := zg_of h
                          obtain ⟨S32, eS32, h⟩ := zs_ex h
                          have hW32 : WR shF S32 := by rw [eS32]; exact hW30.up (i := a2) sf72 (v := (S30 51 54)) (hW30 51 _ sf51 54)
                          refine s_iast hz sf72 rfl (by decide) g31 dX12_join_119 ?_
                          rw [← eS32]
                          refine s_aload_n 0 hz dX12_join_120 rfl ?_
                          refine s_getR 33 hz fl_X12_99 sf51 rfl (by decide) dX12_join_121 ?_
                          refine s_iload_n 3 hz dX12_join_124 rfl ?_
                          refine s_aload_n 0 hz dX12_join_125 rfl ?_
                          refine s_getI (kz := 54) 54 hz fl_X12_407 sf51 rfl rfl dX12_join_126 ?_
                          obtain ⟨g33, h⟩ := zg_of h
                          obtain ⟨S34, eS34, h⟩ := zs_ex h
                          have hW34 : WR shF S34 := by rw [eS34]; exact hW32.up (i := a3) sf72 (v := (S32 51 54)) (hW32 51 _ sf51 54)
                          refine s_iast hz sf72 rfl (by decide) g33 dX12_join_129 ?_
                          rw [← eS34]
                          refine s_aload_n 0 hz dX12_join_130 rfl ?_
                          refine s_dup hz rfl dX12_join_131 ?_
                          refine s_getI (kz := 54) 54 hz fl_X12_407 sf51 rfl rfl dX12_join_132 ?_
                          refine s_iconst hz dX12_join_135 ?_
                          refine s_iadd hz dX12_join_136 ?_
                          obtain ⟨x35, ex35, rx35, h⟩ := zl_ex h
                          rw [← ex35]
                          obtain ⟨S36, eS36, h⟩ := zs_ex h
                          have hW36 : WR shF S36 := by rw [eS36]; exact hW34.up (i := 54) sf51 (v := x35) rx35
                          refine s_putI (kz := 54) 54 hz fp_X12_407 sf51 rfl rfl dX12_join_137 ?_
                          rw [← eS36]
                          refine s_aload_n 0 hz dX12_join_140 rfl ?_
                          refine s_getI (kz := 54) 54 hz fl_X12_407 sf51 rfl rfl dX12_join_141 ?_
                          exact s_iret h hz hF (hW36 51 _ sf51 54) hW36 dX12_join_144
                        · have h := zif_t c28 h
                          refine s_iconst hz dX12_join_98 ?_
                          exact s_iret h hz hF rl_m1 hW27 dX12_join_99
def M_X12_sortOf (a1 : Int) (S : HS) : zO2 :=
  zg ((0 : Int) ≤ a1 ∧ a1 < 192) <|
  if 0 ≤ S 67 a1 then (
    zg ((0 : Int) ≤ a1 ∧ a1 < 192) <|
    if S 68 a1 < 0 then (
      zg ((0 : Int) ≤ a1 ∧ a1 < 192) <|
      if S 77 a1 = (-2) then (
        some (2, S))
      else (
        some (3, S)))
    else (
      some (1, S)))
  else (
    some (0, S))
set_option maxHeartbeats 4000000 in
set_option maxRecDepth 20000 in
theorem T_X12_sortOf {a1 : Int} {S S' : HS} {r : Int} (ra1 : rng a1) (hW : WR shF S) (h : M_X12_sortOf a1 S = some (r, S')) : zR shF yX12_sortOf cX12_sortOf 2  .int 1 [aR 51, aI a1] S r S' := by
  refine zR_of (by decide +kernel) (Nat.le_of_ble_eq_true rfl) (fun z hz hN hF => ?_)
  have hz : zO z cX12_sortOf RX12 1 shF := hz
  show zA z 0 [(0, aR 51), (1, aI a1)] [] S
  unfold M_X12_sortOf at h
  refine s_aload_n 0 hz dX12_sortOf_0 rfl ?_
  refine s_getR 28 hz fl_X12_84 sf51 rfl (by decide) dX12_sortOf_1 ?_
  refine s_iload_n 1 hz dX12_sortOf_4 rfl ?_
  obtain ⟨g1, h⟩ := zg_of h
  refine s_iald hz sf67 rfl (by decide) g1 dX12_sortOf_5 ?_
  refine s_if_ge 13 hz (hW 67 _ sf67 a1) dX12_sortOf_6 rfl (fun c2 => ?_) (fun c2 => ?_)
  · have h := zif_t c2 h
    refine s_aload_n 0 hz dX12_sortOf_13 rfl ?_
    refine s_getR 29 hz fl_X12_87 sf51 rfl (by decide) dX12_sortOf_14 ?_
    refine s_iload_n 1 hz dX12_sortOf_17 rfl ?_
    obtain ⟨g3, h⟩ := zg_of h
    refine s_iald hz sf68 rfl (by decide) g3 dX12_sortOf_18 ?_
    refine s_if_lt 26 hz (hW 68 _ sf68 a1) dX12_sortOf_19 rfl (fun c4 => ?_) (fun c4 => ?_)
    · have h := zif_t c4 h
      refine s_aload_n 0 hz dX12_sortOf_26 rfl ?_
      refine s_getR 41 hz fl_X12_114 sf51 rfl (by decide) dX12_sortOf_27 ?_
      refine s_iload_n 1 hz dX12_sortOf_30 rfl ?_
      obtain ⟨g5, h⟩ := zg_of h
      refine s_iald hz sf77 rfl (by decide) g5 dX12_sortOf_31 ?_
      refine s_bipush hz dX12_sortOf_32 bp_m2 ?_
      refine s_icmp_ne 41 hz (hW 77 _ sf77 a1) rl_m2 dX12_sortOf_34 rfl (fun c6 => ?_) (fun c6 => ?_)
      · have h := zif_f c6 h
        refine s_iconst hz dX12_sortOf_41 ?_
        exact s_iret h hz hF rl_3 hW dX12_sortOf_42
      · have h := zif_t c6 h
        refine s_iconst hz dX12_sortOf_37 ?_
        refine s_goto 42 hz dX12_sortOf_38 rfl ?_
        exact s_iret h hz hF rl_2 hW dX12_sortOf_42
    · have h := zif_f c4 h
      refine s_iconst hz dX12_sortOf_22 ?_
      refine s_goto 42 hz dX12_sortOf_23 rfl ?_
      exact s_iret h hz hF rl_1 hW dX12_sortOf_42
  · have h := zif_f c2 h
    refine s_iconst hz dX12_sortOf_9 ?_
    refine s_goto 42 hz dX12_sortOf_10 rfl ?_
    exact s_iret h hz hF rl_0 hW dX12_sortOf_42
def M_X12_isUnlike (a1 : Int) (S : HS) : zO2 :=
  zb (M_X12_sortOf a1 S) fun r1 S2 =>
  zg ((0 : Int) ≤ a1 ∧ (0 : Int) < 16) <|
  zg ((0 : Int) ≤ a1 ∧ (0 : Int) < 16) <|
  zl ((((a1 / 16) * 16) + 15) - (a1 % 16)) fun x5 =>
  zb (M_X12_sortOf x5 S2) fun r6 S7 =>
  if r1 = r6 then (
    some (0, S7))
  else (
    some (1, S7))
set_option maxHeartbeats 4000000 in
set_option maxRecDepth 20000 in
theorem T_X12_isUnlike {a1 : Int} {S S' : HS} {r : Int} (ra1 : rng a1) (hW : WR shF S) (h : M_X12_isUnlike a1 S = some (r, S')) : zR shF yX12_isUnlike cX12_isUnlike 2  .boolean 2 [aR 51, aI a1] S r S' := by
  refine zR_of (by decide +kernel) (Nat.le_of_ble_eq_true rfl) (fun z hz hN hF => ?_)
  have hz : zO z cX12_isUnlike RX12 2 shF := hz
  show zA z 0 [(0, aR 51), (1, aI a1)] [] S
  unfold M_X12_isUnlike at h
  refine s_aload_n 0 hz dX12_isUnlike_0 rfl ?_
  refine s_iload_n 1 hz dX12_isUnlike_1 rfl ?_
  obtain ⟨r1, S2, hc2, h⟩ := zb_of h
  refine s_callV [aI a1] [] hz ml_X12_410 sv_yX12_sortOf (T_X12_sortOf ra1 hW hc2) (by decide) rfl sf51 rfl rfl (Nat.le_of_ble_eq_true rfl) dX12_isUnlike_2 (fun rr1 hW2 => ?_)
  refine s_aload_n 0 hz dX12_isUnlike_5 rfl ?_
  refine s_iload_n 1 hz dX12_isUnlike_6 rfl ?_
  refine s_bipush hz dX12_isUnlike_7 bp_16 ?_
  obtain ⟨g3, h⟩ := zg_of h
  refine s_idiv hz g3.1 g3.2 ra1 rl_16 dX12_isUnlike_9 ?_
  refine s_bipush hz dX12_isUnlike_10 bp_16 ?_
  refine s_imul hz dX12_isUnlike_12 ?_
  refine s_bipush hz dX12_isUnlike_13 bp_15 ?_
  refine s_iadd hz dX12_isUnlike_15 ?_
  refine s_iload_n 1 hz dX12_isUnlike_16 rfl ?_
  refine s_bipush hz dX12_isUnlike_17 bp_16 ?_
  obtain ⟨g4, h⟩ := zg_of h
  refine s_irem hz g4.1 g4.2 ra1 rl_16 dX12_isUnlike_19 ?_
  refine s_isub hz dX12_isUnlike_20 ?_
  obtain ⟨x5, ex5, rx5, h⟩ := zl_ex h
  rw [← ex5]
  obtain ⟨r6, S7, hc7, h⟩ := zb_of h
  refine s_callV [aI x5] [aI r1] hz ml_X12_410 sv_yX12_sortOf (T_X12_sortOf rx5 hW2 hc7) (by decide) rfl sf51 rfl rfl (Nat.le_of_ble_eq_true rfl) dX12_isUnlike_21 (fun rr6 hW7 => ?_)
  refine s_icmp_eq 31 hz rr1 rr6 dX12_isUnlike_24 rfl (fun c8 => ?_) (fun c8 => ?_)
  · have h := zif_t c8 h
    refine s_iconst hz dX12_isUnlike_31 ?_
    exact s_zret h hz hF (by decide) hW7 dX12_isUnlike_32
  · have h := zif_f c8 h
    refine s_iconst hz dX12_isUnlike_27 ?_
    refine s_goto 32 hz dX12_isUnlike_28 rfl ?_
    exact s_zret h hz hF (by decide) hW7 dX12_isUnlike_32
def J_X12_look_23 (v1 : Int) (v2 : Int) (v3 : Int) (t0 : Int) (S : HS) : zO2 :=
  zs (up S 51 0 t0) fun S4 =>
  if S4 51 0 ≤ 0 then (
    zl ((16 * v2) + v1) fun x6 =>
    zb (M_X12_findTaken S4) fun _ S8 =>
    if v3 = 0 then (
      zg ((0 : Int) ≤ x6 ∧ x6 < 192) <|
      some (S8 67 x6, S8))
    else (
      if v3 = 1 then (
        zb (M_X12_isUnlike x6 S8) fun r12 S13 =>
        if r12 = 0 then (
          some (0, S13))
        else (
          some (1, S13)))
      else (
        zg ((0 : Int) ≤ x6 ∧ x6 < 192) <|
        some (S8 68 x6, S8))))
  else (
    some (0, S4))
set_option maxHeartbeats 4000000 in
set_option maxRecDepth 20000 in
theorem TJ_X12_look_23 {v1 : Int} {v2 : Int} {v3 : Int} {t0 : Int} {S : HS} {r : Int} {S' : HS} {z : Zt} (hz : zO z cX12_look RX12 6 shF) (hN : zN z 5) (hF : zFi z shF .int r S') (rv1 : rng v1) (rv2 : rng v2) (rv3 : rng v3) (rt0 : rng t0) (hW : WR shF S) (h : J_X12_look_23 v1 v2 v3 t0 S = some (r, S')) : zA z 23 [(0, aR 51), (1, aI v1), (2, aI v2), (3, aI v3)] [aI t0, aR 51] S := by
  unfold J_X12_look_23 at h
  obtain ⟨S4, eS4, h⟩ := zs_ex h
  have hW4 : WR shF S4 := by rw [eS4]; exact hW.up (i := 0) sf51 (v := t0) rt0
  refine s_putI (kz := 0) 0 hz fp_X12_1 sf51 rfl rfl dX12_look_23 ?_
  rw [← eS4]
  refine s_aload_n 0 hz dX12_look_26 rfl ?_
  refine s_getI (kz := 0) 0 hz fl_X12_1 sf51 rfl rfl dX12_look_27 ?_
  refine s_if_le 35 hz (hW4 51 _ sf51 0) dX12_look_30 rfl (fun c5 => ?_) (fun c5 => ?_)
  · have h := zif_t c5 h
    refine s_bipush hz dX12_look_35 bp_16 ?_
    refine s_iload_n 2 hz dX12_look_37 rfl ?_
    refine s_imul hz dX12_look_38 ?_
    refine s_iload_n 1 hz dX12_look_39 rfl ?_
    refine s_iadd hz dX12_look_40 ?_
    obtain ⟨x6, ex6, rx6, h⟩ := zl_ex h
    rw [← ex6]
    refine s_istore (l' := [(4, aI x6), (0, aR 51), (1, aI v1), (2, aI v2), (3, aI v3)]) hz hN dX12_look_41 (by decide) rfl ?_
    refine s_aload_n 1 hz dX12_look_43 rfl ?_
    obtain ⟨r7, S8, hc8, h⟩ := zb_of h
    refine s_callVv [] [] hz ml_X12_351 sv_yX12_findTaken (T_X12_findTaken hW4 hc8) (by decide) rfl sf51 rfl rfl (Nat.le_of_ble_eq_true rfl) dX12_look_44 (fun hW8 => ?_)
    refine s_iload_n 4 hz dX12_look_47 rfl ?_
    refine s_if_ne 61 hz rv3 dX12_look_48 rfl (fun c9 => ?_) (fun c9 => ?_)
    · have h := zif_f c9 h
      refine s_iload_n 4 hz dX12_look_61 rfl ?_
      refine s_iconst hz dX12_look_62 ?_
      refine s_icmp_ne 83 hz rv3 rl_1 dX12_look_63 rfl (fun c10 => ?_) (fun c10 => ?_)
      · have h := zif_f c10 h
        refine s_aload_n 1 hz dX12_look_83 rfl ?_
        refine s_getR 29 hz fl_X12_87 sf51 rfl (by decide) dX12_look_84 ?_
        refine s_iload 0 hz dX12_look_87 rfl ?_
        obtain ⟨g11, h⟩ := zg_of h
        refine s_iald hz sf68 rfl (by decide) g11 dX12_look_89 ?_
        exact s_iret h hz hF (hW8 68 _ sf68 x6) hW8 dX12_look_90
      · have h := zif_t c10 h
        refine s_aload_n 1 hz dX12_look_66 rfl ?_
        refine s_iload 0 hz dX12_look_67 rfl ?_
        obtain ⟨r12, S13, hc13, h⟩ := zb_of h
        refine s_callV [aI x6] [] hz ml_X12_413 sv_yX12_isUnlike (T_X12_isUnlike rx6 hW8 hc13) (by decide) rfl sf51 rfl rfl (Nat.le_of_ble_eq_true rfl) dX12_look_69 (fun rr12 hW13 => ?_)
        refine s_if_eq 79 hz rr12 dX12_look_72 rfl (fun c14 => ?_) (fun c14 => ?_)
        · have h := zif_t c14 h
          refine s_iconst hz dX12_look_79 ?_
          refine s_goto 90 hz dX12_look_80 rfl ?_
          exact s_iret h hz hF rl_0 hW13 dX12_look_90
        · have h := zif_f c14 h
          refine s_iconst hz dX12_look_75 ?_
          refine s_goto 90 hz dX12_look_76 rfl ?_
          exact s_iret h hz hF rl_1 hW13 dX12_look_90
    · have h := zif_t c9 h
      refine s_aload_n 1 hz dX12_look_51 rfl ?_
      refine s_getR 28 hz fl_X12_84 sf51 rfl (by decide) dX12_look_52 ?_
      refine s_iload 0 hz dX12_look_55 rfl ?_
      obtain ⟨g15, h⟩ := zg_of h
      refine s_iald hz sf67 rfl (by decide) g15 dX12_look_57 ?_
      refine s_goto 90 hz dX12_look_58 rfl ?_
      exact s_iret h hz hF (hW8 67 _ sf67 x6) hW8 dX12_look_90
  · have h := zif_f c5 h
    refine s_iconst hz dX12_look_33 ?_
    exact s_iret h hz hF rl_0 hW4 dX12_look_34
def J_X12_look_22 (v1 : Int) (v2 : Int) (v3 : Int) (S : HS) : zO2 :=
  J_X12_look_23 v1 v2 v3 1 S
set_option maxHeartbeats 4000000 in
set_option maxRecDepth 20000 in
theorem TJ_X12_look_22 {v1 : Int} {v2 : Int} {v3 : Int} {S : HS} {r : Int} {S' : HS} {z : Zt} (hz : zO z cX12_look RX12 6 shF) (hN : zN z 5) (hF : zFi z shF .int r S') (rv1 : rng v1) (rv2 : rng v2) (rv3 : rng v3) (hW : WR shF S) (h : J_X12_look_22 v1 v2 v3 S = some (r, S')) : zA z 22 [(0, aR 51), (1, aI v1), (2, aI v2), (3, aI v3)] [aR 51] S := by
  unfold J_X12_look_22 at h
  refine s_iconst hz dX12_look_22 ?_
  exact TJ_X12_look_23 hz hN hF rv1 rv2 rv3 rl_1 hW h
def M_X12_look (a1 : Int) (a2 : Int) (a3 : Int) (S : HS) : zO2 :=
  zb (M_X12_isCell a1 a2 S) fun r1 S2 =>
  if r1 = 0 then (
    J_X12_look_22 a1 a2 a3 S2)
  else (
    if a3 < 0 then (
      J_X12_look_22 a1 a2 a3 S2)
    else (
      if 2 < a3 then (
        J_X12_look_22 a1 a2 a3 S2)
      else (
        J_X12_look_23 a1 a2 a3 0 S2)))
set_option maxHeartbeats 4000000 in
set_option maxRecDepth 20000 in
theorem T_X12_look {a1 : Int} {a2 : Int} {a3 : Int} {S S' : HS} {r : Int} (ra1 : rng a1) (ra2 : rng a2) (ra3 : rng a3) (hW : WR shF S) (h : M_X12_look a1 a2 a3 S = some (r, S')) : zR shF yX12_look cX12_look 5  .int 6 [aR 51, aI a1, aI a2, aI a3] S r S' := by
  refine zR_of (by decide +kernel) (Nat.le_of_ble_eq_true rfl) (fun z hz hN hF => ?_)
  have hz : zO z cX12_look RX12 6 shF := hz
  show zA z 0 [(0, aR 51), (1, aI a1), (2, aI a2), (3, aI a3)] [] S
  unfold M_X12_look at h
  refine s_aload_n 0 hz dX12_look_0 rfl ?_
  refine s_iload_n 1 hz dX12_look_1 rfl ?_
  refine s_iload_n 2 hz dX12_look_2 rfl ?_
  obtain ⟨r1, S2, hc2, h⟩ := zb_of h
  refine s_callS [aI a1, aI a2] [aR 51] hz ml_X12_311 ss_yX12_isCell (T_X12_isCell ra1 ra2 hW hc2) (by decide) rfl rfl (Nat.le_of_ble_eq_true rfl) dX12_look_3 (fun rr1 hW2 => ?_)
  refine s_if_eq 22 hz rr1 dX12_look_6 rfl (fun c3 => ?_) (fun c3 => ?_)
  · have h := zif_t c3 h
    exact TJ_X12_look_22 hz hN hF ra1 ra2 ra3 hW2 h
  · have h := zif_f c3 h
    refine s_iload_n 3 hz dX12_look_9 rfl ?_
    refine s_if_lt 22 hz ra3 dX12_look_10 rfl (fun c16 => ?_) (fun c16 => ?_)
    · have h := zif_t c16 h
      exact TJ_X12_look_22 hz hN hF ra1 ra2 ra3 hW2 h
    · have h := zif_f c16 h
      refine s_iload_n 3 hz dX12_look_13 rfl ?_
      refine s_iconst hz dX12_look_14 ?_
      refine s_icmp_gt 22 hz ra3 rl_2 dX12_look_15 rfl (fun c17 => ?_) (fun c17 => ?_)
      · have h := zif_t c17 h
        exact TJ_X12_look_22 hz hN hF ra1 ra2 ra3 hW2 h
      · have h := zif_f c17 h
        refine s_iconst hz dX12_look_18 ?_
        refine s_goto 23 hz dX12_look_19 rfl ?_
        exact TJ_X12_look_23 hz hN hF ra1 ra2 ra3 rl_0 hW2 h
def M_X12_lastWeights (a1 : Int) (S : HS) : zO2 :=
  zb (M_X12_braids a1 S) fun _ S2 =>
  zg ((0 : Int) ≤ a1 ∧ a1 < 24) <|
  zl ((S2 69 a1) - 1) fun x4 =>
  zg ((0 : Int) ≤ 3 * x4 ∧ 3 * x4 < 576) <|
  zg ((0 : Int) ≤ (3 * x4) + 1 ∧ (3 * x4) + 1 < 576) <|
  zg ((0 : Int) ≤ (3 * x4) + 2 ∧ (3 * x4) + 2 < 576) <|
  zl (((S2 84 (3 * x4)) + (S2 84 ((3 * x4) + 1))) + (S2 84 ((3 * x4) + 2))) fun x8 =>
  some (x8, S2)
set_option maxHeartbeats 4000000 in
set_option maxRecDepth 20000 in
theorem T_X12_lastWeights {a1 : Int} {S S' : HS} {r : Int} (ra1 : rng a1) (hW : WR shF S) (h : M_X12_lastWeights a1 S = some (r, S')) : zR shF yX12_lastWeights cX12_lastWeights 3  .int 8 [aR 51, aI a1] S r S' := by
  refine zR_of (by decide +kernel) (Nat.le_of_ble_eq_true rfl) (fun z hz hN hF => ?_)
  have hz : zO z cX12_lastWeights RX12 8 shF := hz
  show zA z 0 [(0, aR 51), (1, aI a1)] [] S
  unfold M_X12_lastWeights at h
  refine s_aload_n 0 hz dX12_lastWeights_0 rfl ?_
  refine s_iload_n 1 hz dX12_lastWeights_1 rfl ?_
  obtain ⟨r1, S2, hc2, h⟩ := zb_of h
  refine s_callVv [aI a1] [] hz ml_X12_383 sv_yX12_braids (T_X12_braids ra1 hW hc2) (by decide) rfl sf51 rfl rfl (Nat.le_of_ble_eq_true rfl) dX12_lastWeights_2 (fun hW2 => ?_)
  refine s_aload_n 0 hz dX12_lastWeights_5 rfl ?_
  refine s_getR 30 hz fl_X12_90 sf51 rfl (by decide) dX12_lastWeights_6 ?_
  refine s_iload_n 1 hz dX12_lastWeights_9 rfl ?_
  obtain ⟨g3, h⟩ := zg_of h
  refine s_iald hz sf69 rfl (by decide) g3 dX12_lastWeights_10 ?_
  refine s_iconst hz dX12_lastWeights_11 ?_
  refine s_isub hz dX12_lastWeights_12 ?_
  obtain ⟨x4, ex4, rx4, h⟩ := zl_ex h
  rw [← ex4]
  refine s_istore_n (l' := [(2, aI x4), (0, aR 51), (1, aI a1)]) hz hN dX12_lastWeights_13 (by decide) rfl ?_
  refine s_aload_n 1 hz dX12_lastWeights_14 rfl ?_
  refine s_getR 49 hz fl_X12_135 sf51 rfl (by decide) dX12_lastWeights_15 ?_
  refine s_iconst hz dX12_lastWeights_18 ?_
  refine s_iload_n 0 hz dX12_lastWeights_19 rfl ?_
  refine s_imul hz dX12_lastWeights_20 ?_
  obtain ⟨g5, h⟩ := zg_of h
  refine s_iald hz sf84 rfl (by decide) g5 dX12_lastWeights_21 ?_
  refine s_aload_n 1 hz dX12_lastWeights_22 rfl ?_
  refine s_getR 49 hz fl_X12_135 sf51 rfl (by decide) dX12_lastWeights_23 ?_
  refine s_iconst hz dX12_lastWeights_26 ?_
  refine s_iload_n 0 hz dX12_lastWeights_27 rfl ?_
  refine s_imul hz dX12_lastWeights_28 ?_
  refine s_iconst hz dX12_lastWeights_29 ?_
  refine s_iadd hz dX12_lastWeights_30 ?_
  obtain ⟨g6, h⟩ := zg_of h
  refine s_iald hz sf84 rfl (by decide) g6 dX12_lastWeights_31 ?_
  refine s_iadd hz dX12_lastWeights_32 ?_
  refine s_aload_n 1 hz dX12_lastWeights_33 rfl ?_
  refine s_getR 49 hz fl_X12_135 sf51 rfl (by decide) dX12_lastWeights_34 ?_
  refine s_iconst hz dX12_lastWeights_37 ?_
  refine s_iload_n 0 hz dX12_lastWeights_38 rfl ?_
  refine s_imul hz dX12_lastWeights_39 ?_
  refine s_iconst hz dX12_lastWeights_40 ?_
  refine s_iadd hz dX12_lastWeights_41 ?_
  obtain ⟨g7, h⟩ := zg_of h
  refine s_iald hz sf84 rfl (by decide) g7 dX12_lastWeights_42 ?_
  refine s_iadd hz dX12_lastWeights_43 ?_
  obtain ⟨x8, ex8, rx8, h⟩ := zl_ex h
  rw [← ex8]
  exact s_iret h hz hF rx8 hW2 dX12_lastWeights_44
def M_X12_workOf (a1 : Int) (S : HS) : zO2 :=
  zg ((0 : Int) ≤ a1 ∧ a1 < 24) <|
  zb (M_X12_lastWeights a1 S) fun r2 S3 =>
  zg ((0 : Int) ≤ r2 ∧ (0 : Int) < 10) <|
  zb (M_X12_timesAdded a1 S3) fun r5 S6 =>
  zl (((2 * (S 69 a1)) + (r2 / 10)) + (5 * r5)) fun x7 =>
  some (x7, S6)
set_option maxHeartbeats 4000000 in
set_option maxRecDepth 20000 in
theorem T_X12_workOf {a1 : Int} {S S' : HS} {r : Int} (ra1 : rng a1) (hW : WR shF S) (h : M_X12_workOf a1 S = some (r, S')) : zR shF yX12_workOf cX12_workOf 2  .int 9 [aR 51, aI a1] S r S' := by
  refine zR_of (by decide +kernel) (Nat.le_of_ble_eq_true rfl) (fun z hz hN hF => ?_)
  have hz : zO z cX12_workOf RX12 9 shF := hz
  show zA z 0 [(0, aR 51), (1, aI a1)] [] S
  unfold M_X12_workOf at h
  refine s_iconst hz dX12_workOf_0 ?_
  refine s_aload_n 0 hz dX12_workOf_1 rfl ?_
  refine s_getR 30 hz fl_X12_90 sf51 rfl (by decide) dX12_workOf_2 ?_
  refine s_iload_n 1 hz dX12_workOf_5 rfl ?_
  obtain ⟨g1, h⟩ := zg_of h
  refine s_iald hz sf69 rfl (by decide) g1 dX12_workOf_6 ?_
  refine s_imul hz dX12_workOf_7 ?_
  refine s_aload_n 0 hz dX12_workOf_8 rfl ?_
  refine s_iload_n 1 hz dX12_workOf_9 rfl ?_
  obtain ⟨r2, S3, hc3, h⟩ := zb_of h
  refine s_callV [aI a1] [aI (2 * (S 69 a1))] hz ml_X12_416 sv_yX12_lastWeights (T_X12_lastWeights ra1 hW hc3) (by decide) rfl sf51 rfl rfl (Nat.le_of_ble_eq_true rfl) dX12_workOf_10 (fun rr2 hW3 => ?_)
  refine s_bipush hz dX12_workOf_13 bp_10 ?_
  obtain ⟨g4, h⟩ := zg_of h
  refine s_idiv hz g4.1 g4.2 rr2 rl_10 dX12_workOf_15 ?_
  refine s_iadd hz dX12_workOf_16 ?_
  refine s_iconst hz dX12_workOf_17 ?_
  refine s_aload_n 0 hz dX12_workOf_18 rfl ?_
  refine s_iload_n 1 hz dX12_workOf_19 rfl ?_
  obtain ⟨r5, S6, hc6, h⟩ := zb_of h
  refine s_callV [aI a1] [aI 5, aI ((2 * (S 69 a1)) + (r2 / 10))] hz ml_X12_324 sv_yX12_timesAdded (T_X12_timesAdded ra1 hW3 hc6) (by decide) rfl sf51 rfl rfl (Nat.le_of_ble_eq_true rfl) dX12_workOf_20 (fun rr5 hW6 => ?_)
  refine s_imul hz dX12_workOf_23 ?_
  refine s_iadd hz dX12_workOf_24 ?_
  obtain ⟨x7, ex7, rx7, h⟩ := zl_ex h
  rw [← ex7]
  exact s_iret h hz hF rx7 hW6 dX12_workOf_25
def M_X12_work (a1 : Int) (S : HS) : zO2 :=
  zs (up S 51 0 0) fun S1 =>
  zb (M_X12_isRow a1 S1) fun r2 S3 =>
  if r2 = 0 then (
    some ((-1), S3))
  else (
    zb (M_X12_workOf a1 S3) fun r5 S6 =>
    some (r5, S6))
set_option maxHeartbeats 4000000 in
set_option maxRecDepth 20000 in
theorem T_X12_work {a1 : Int} {S S' : HS} {r : Int} (ra1 : rng a1) (hW : WR shF S) (h : M_X12_work a1 S = some (r, S')) : zR shF yX12_work cX12_work 2  .int 10 [aR 51, aI a1] S r S' := by
  refine zR_of (by decide +kernel) (Nat.le_of_ble_eq_true rfl) (fun z hz hN hF => ?_)
  have hz : zO z cX12_work RX12 10 shF := hz
  show zA z 0 [(0, aR 51), (1, aI a1)] [] S
  unfold M_X12_work at h
  refine s_aload_n 0 hz dX12_work_0 rfl ?_
  refine s_iconst hz dX12_work_1 ?_
  obtain ⟨S1, eS1, h⟩ := zs_ex h
  have hW1 : WR shF S1 := by rw [eS1]; exact hW.up (i := 0) sf51 (v := 0) rl_0
  refine s_putI (kz := 0) 0 hz fp_X12_1 sf51 rfl rfl dX12_work_2 ?_
  rw [← eS1]
  refine s_aload_n 0 hz dX12_work_5 rfl ?_
  refine s_iload_n 1 hz dX12_work_6 rfl ?_
  obtain ⟨r2, S3, hc3, h⟩ := zb_of h
  refine s_callV [aI a1] [] hz ml_X12_389 sv_yX12_isRow (T_X12_isRow ra1 hW1 hc3) (by decide) rfl sf51 rfl rfl (Nat.le_of_ble_eq_true rfl) dX12_work_7 (fun rr2 hW3 => ?_)
  refine s_if_eq 21 hz rr2 dX12_work_10 rfl (fun c4 => ?_) (fun c4 => ?_)
  · have h := zif_t c4 h
    refine s_iconst hz dX12_work_21 ?_
    exact s_iret h hz hF rl_m1 hW3 dX12_work_22
  · have h := zif_f c4 h
    refine s_aload_n 0 hz dX12_work_13 rfl ?_
    refine s_iload_n 1 hz dX12_work_14 rfl ?_
    obtain ⟨r5, S6, hc6, h⟩ := zb_of h
    refine s_callV [aI a1] [] hz ml_X12_419 sv_yX12_workOf (T_X12_workOf ra1 hW3 hc6) (by decide) rfl sf51 rfl rfl (Nat.le_of_ble_eq_true rfl) dX12_work_15 (fun rr5 hW6 => ?_)
    refine s_goto 22 hz dX12_work_18 rfl ?_
    exact s_iret h hz hF rr5 hW6 dX12_work_22
def J_X12_hands_63 (t0 : Int) (t1 : Int) (S : HS) : zO2 :=
  zg ((0 : Int) ≤ t1 ∧ t1 < 3) <|
  zs (up S 89 t1 t0) fun S12 =>
  some (1, S12)
set_option maxHeartbeats 4000000 in
set_option maxRecDepth 20000 in
theorem TJ_X12_hands_63 {t0 : Int} {t1 : Int} {S : HS} {r : Int} {S' : HS} {z : Zt} (hz : zO z cX12_hands RX12 1 shF) (hN : zN z 4) (hF : zFi z shF .boolean r S') (rt0 : rng t0) (rt1 : rng t1) (hW : WR shF S) (h : J_X12_hands_63 t0 t1 S = some (r, S')) : zA z 63 [] [aI t0, aI t1, aR 89] S := by
  unfold J_X12_hands_63 at h
  obtain ⟨g11, h⟩ := zg_of h
  obtain ⟨S12, eS12, h⟩ := zs_ex h
  have hW12 : WR shF S12 := by rw [eS12]; exact hW.up (i := t1) sf89 (v := t0) rt0
  refine s_iast hz sf89 rfl (by decide) g11 dX12_hands_63 ?_
  rw [← eS12]
  refine s_iconst hz dX12_hands_64 ?_
  exact s_zret h hz hF (by decide) hW12 dX12_hands_65
def M_X12_hands (a1 : Int) (a2 : Int) (a3 : Int) (S : HS) : zO2 :=
  zs (up S 51 0 0) fun S1 =>
  if a1 < 1 then (
    some (0, S1))
  else (
    if 3 < a1 then (
      some (0, S1))
    else (
      if a2 < 0 then (
        some (0, S1))
      else (
        if 3 < a2 then (
          some (0, S1))
        else (
          if a3 < 0 then (
            some (0, S1))
          else (
            if a3 ≤ 3 then (
              zs (up S1 89 0 a1) fun S8 =>
              zs (up S8 89 1 a2) fun S9 =>
              if a2 = 0 then (
                J_X12_hands_63 0 2 S9)
              else (
                J_X12_hands_63 a3 2 S9))
            else (
              some (0, S1)))))))
set_option maxHeartbeats 4000000 in
set_option maxRecDepth 20000 in
theorem T_X12_hands {a1 : Int} {a2 : Int} {a3 : Int} {S S' : HS} {r : Int} (ra1 : rng a1) (ra2 : rng a2) (ra3 : rng a3) (hW : WR shF S) (h : M_X12_hands a1 a2 a3 S = some (r, S')) : zR shF yX12_hands cX12_hands 4  .boolean 1 [aR 51, aI a1, aI a2, aI a3] S r S' := by
  refine zR_of (by decide +kernel) (Nat.le_of_ble_eq_true rfl) (fun z hz hN hF => ?_)
  have hz : zO z cX12_hands RX12 1 shF := hz
  show zA z 0 [(0, aR 51), (1, aI a1), (2, aI a2), (3, aI a3)] [] S
  unfold M_X12_hands at h
  refine s_aload_n 0 hz dX12_hands_0 rfl ?_
  refine s_iconst hz dX12_hands_1 ?_
  obtain ⟨S1, eS1, h⟩ := zs_ex h
  have hW1 : WR shF S1 := by rw [eS1]; exact hW.up (i := 0) sf51 (v := 0) rl_0
  refine s_putI (kz := 0) 0 hz fp_X12_1 sf51 rfl rfl dX12_hands_2 ?_
  rw [← eS1]
  refine s_iload_n 1 hz dX12_hands_5 rfl ?_
  refine s_iconst hz dX12_hands_6 ?_
  refine s_icmp_lt 33 hz ra1 rl_1 dX12_hands_7 rfl (fun c2 => ?_) (fun c2 => ?_)
  · have h := zif_t c2 h
    refine s_iconst hz dX12_hands_33 ?_
    exact s_zret h hz hF (by decide) hW1 dX12_hands_34
  · have h := zif_f c2 h
    refine s_iload_n 1 hz dX12_hands_10 rfl ?_
    refine s_iconst hz dX12_hands_11 ?_
    refine s_icmp_gt 33 hz ra1 rl_3 dX12_hands_12 rfl (fun c3 => ?_) (fun c3 => ?_)
    · have h := zif_t c3 h
      refine s_iconst hz dX12_hands_33 ?_
      exact s_zret h hz hF (by decide) hW1 dX12_hands_34
    · have h := zif_f c3 h
      refine s_iload_n 2 hz dX12_hands_15 rfl ?_
      refine s_if_lt 33 hz ra2 dX12_hands_16 rfl (fun c4 => ?_) (fun c4 => ?_)
      · have h := zif_t c4 h
        refine s_iconst hz dX12_hands_33 ?_
        exact s_zret h hz hF (by decide) hW1 dX12_hands_34
      · have h := zif_f c4 h
        refine s_iload_n 2 hz dX12_hands_19 rfl ?_
        refine s_iconst hz dX12_hands_20 ?_
        refine s_icmp_gt 33 hz ra2 rl_3 dX12_hands_21 rfl (fun c5 => ?_) (fun c5 => ?_)
        · have h := zif_t c5 h
          refine s_iconst hz dX12_hands_33 ?_
          exact s_zret h hz hF (by decide) hW1 dX12_hands_34
        · have h := zif_f c5 h
          refine s_iload_n 3 hz dX12_hands_24 rfl ?_
          refine s_if_lt 33 hz ra3 dX12_hands_25 rfl (fun c6 => ?_) (fun c6 => ?_)
          · have h := zif_t c6 h
            refine s_iconst hz dX12_hands_33 ?_
            exact s_zret h hz hF (by decide) hW1 dX12_hands_34
          · have h := zif_f c6 h
            refine s_iload_n 3 hz dX12_hands_28 rfl ?_
            refine s_iconst hz dX12_hands_29 ?_
            refine s_icmp_le 35 hz ra3 rl_3 dX12_hands_30 rfl (fun c7 => ?_) (fun c7 => ?_)
            · have h := zif_t c7 h
              refine s_aload_n 0 hz dX12_hands_35 rfl ?_
              refine s_getR 55 hz fl_X12_150 sf51 rfl (by decide) dX12_hands_36 ?_
              refine s_iconst hz dX12_hands_39 ?_
              refine s_iload_n 1 hz dX12_hands_40 rfl ?_
              obtain ⟨S8, eS8, h⟩ := zs_ex h
              have hW8 : WR shF S8 := by rw [eS8]; exact hW1.up (i := 0) sf89 (v := a1) ra1
              refine s_iast hz sf89 rfl (by decide) (by decide) dX12_hands_41 ?_
              rw [← eS8]
              refine s_aload_n 0 hz dX12_hands_42 rfl ?_
              refine s_getR 55 hz fl_X12_150 sf51 rfl (by decide) dX12_hands_43 ?_
              refine s_iconst hz dX12_hands_46 ?_
              refine s_iload_n 2 hz dX12_hands_47 rfl ?_
              obtain ⟨S9, eS9, h⟩ := zs_ex h
              have hW9 : WR shF S9 := by rw [eS9]; exact hW8.up (i := 1) sf89 (v := a2) ra2
              refine s_iast hz sf89 rfl (by decide) (by decide) dX12_hands_48 ?_
              rw [← eS9]
              refine s_aload_n 0 hz dX12_hands_49 rfl ?_
              refine s_getR 55 hz fl_X12_150 sf51 rfl (by decide) dX12_hands_50 ?_
              refine s_iconst hz dX12_hands_53 ?_
              refine s_iload_n 2 hz dX12_hands_54 rfl ?_
              refine s_if_ne 62 hz ra2 dX12_hands_55 rfl (fun c10 => ?_) (fun c10 => ?_)
              · have h := zif_f c10 h
                refine s_iload_n 3 hz dX12_hands_62 rfl ?_
                refine s_pick (l' := []) [] rfl ?_
                exact TJ_X12_hands_63 hz hN hF ra3 rl_2 hW9 h
              · have h := zif_t c10 h
                refine s_iconst hz dX12_hands_58 ?_
                refine s_goto 63 hz dX12_hands_59 rfl ?_
                refine s_pick (l' := []) [] rfl ?_
                exact TJ_X12_hands_63 hz hN hF rl_0 rl_2 hW9 h
            · have h := zif_f c7 h
              refine s_iconst hz dX12_hands_33 ?_
              exact s_zret h hz hF (by decide) hW1 dX12_hands_34
def L_X12_holdsFor_13 (k39 : Int → HS → zO2) (p1 : Int) : Nat → Int → Int → HS → zO2
  | 0, _, _, _ => none
  | n + 1, v2, v3, S => 
    zg ((0 : Int) ≤ p1 ∧ p1 < 24) <|
    if S 69 p1 ≤ v3 then (
      k39 v2 S)
    else (
      zb (M_X12_fewest v3 S) fun r7 S8 =>
      zb (M_X12_least v2 r7 S8) fun r9 S10 =>
      zl (v3 + 1) fun x11 =>
      L_X12_holdsFor_13 k39 p1 n r9 x11 S10)
set_option maxHeartbeats 4000000 in
set_option maxRecDepth 20000 in
theorem TL_X12_holdsFor_13 {k39 : Int → HS → zO2} {p1 : Int} {r : Int} {S' : HS} {z : Zt} (hz : zO z cX12_holdsFor RX12 8 shF) (hN : zN z 4) (hF : zFi z shF .int r S') (hk39 : ∀ (w2 : Int) (S : HS), rng w2 → WR shF S → k39 w2 S = some (r, S') → zA z 39 [(2, aI w2)] [] S) (rp1 : rng p1) : ∀ (n : Nat) {v2 : Int} {v3 : Int} {S : HS}, rng v2 → rng v3 → WR shF S → L_X12_holdsFor_13 k39 p1 n v2 v3 S = some (r, S') → zA z 13 [(0, aR 51), (1, aI p1), (2, aI v2), (3, aI v3)] [] S := by
  intro n
  induction n with
  | zero =>
    intro _ _ _ _ _ _ h
    cases h
  | succ n ih =>
    intro v2 v3 S rv2 rv3 hW h
    rw [L_X12_holdsFor_13.eq_2] at h
    refine s_iload_n 3 hz dX12_holdsFor_13 rfl ?_
    refine s_aload_n 0 hz dX12_holdsFor_14 rfl ?_
    refine s_getR 30 hz fl_X12_90 sf51 rfl (by decide) dX12_holdsFor_15 ?_
    refine s_iload_n 1 hz dX12_holdsFor_18 rfl ?_
    obtain ⟨g5, h⟩ := zg_of h
    refine s_iald hz sf69 rfl (by decide) g5 dX12_holdsFor_19 ?_
    refine s_icmp_ge 39 hz rv3 (hW 69 _ sf69 p1) dX12_holdsFor_20 rfl (fun c6 => ?_) (fun c6 => ?_)
    · have h := zif_t c6 h
      refine s_pick (l' := [(2, aI v2)]) [2] rfl ?_
      exact hk39 _ _ rv2 hW h
    · have h := zif_f c6 h
      refine s_iload_n 2 hz dX12_holdsFor_23 rfl ?_
      refine s_aload_n 0 hz dX12_holdsFor_24 rfl ?_
      refine s_iload_n 3 hz dX12_holdsFor_25 rfl ?_
      obtain ⟨r7, S8, hc8, h⟩ := zb_of h
      refine s_callV [aI v3] [aI v2] hz ml_X12_377 sv_yX12_fewest (T_X12_fewest rv3 hW hc8) (by decide) rfl sf51 rfl rfl (Nat.le_of_ble_eq_true rfl) dX12_holdsFor_26 (fun rr7 hW8 => ?_)
      obtain ⟨r9, S10, hc10, h⟩ := zb_of h
      refine s_callS [aI v2, aI r7] [] hz ml_X12_289 ss_yX12_least (T_X12_least rv2 rr7 hW8 hc10) (by decide) rfl rfl (Nat.le_of_ble_eq_true rfl) dX12_holdsFor_29 (fun rr9 hW10 => ?_)
      refine s_istore_n (l' := [(2, aI r9), (0, aR 51), (1, aI p1), (3, aI v3)]) hz hN dX12_holdsFor_32 (by decide) rfl ?_
      obtain ⟨x11, ex11, rx11, h⟩ := zl_ex h
      refine s_iinc (k0 := 3) (y := x11) (l' := [(3, aI x11), (2, aI r9), (0, aR 51), (1, aI p1)]) hz hN dX12_holdsFor_33 rfl ex11.symm (by decide) rfl ?_
      refine s_goto 13 hz dX12_holdsFor_36 rfl ?_
      refine s_pick (l' := [(0, aR 51), (1, aI p1), (2, aI r9), (3, aI x11)]) [2, 3, 1, 0] rfl ?_
      exact ih rr9 rx11 hW10 h
def M_X12_holdsFor (a1 : Int) (S : HS) : zO2 :=
  zb (M_X12_braids a1 S) fun _ S2 =>
  zb (M_X12_fewest 0 S2) fun r3 S4 =>
  L_X12_holdsFor_13 (fun e2 S12 =>
      zg ((0 : Int) ≤ e2 ∧ (0 : Int) < 4) <|
      zl ((e2 / 4) + 1) fun x14 =>
      zb (M_X12_least 8 x14 S12) fun r15 S16 =>
      some (r15, S16)) a1 zBig r3 1 S4
set_option maxHeartbeats 4000000 in
set_option maxRecDepth 20000 in
theorem T_X12_holdsFor {a1 : Int} {S S' : HS} {r : Int} (ra1 : rng a1) (hW : WR shF S) (h : M_X12_holdsFor a1 S = some (r, S')) : zR shF yX12_holdsFor cX12_holdsFor 4  .int 8 [aR 51, aI a1] S r S' := by
  refine zR_of (by decide +kernel) (Nat.le_of_ble_eq_true rfl) (fun z hz hN hF => ?_)
  have hz : zO z cX12_holdsFor RX12 8 shF := hz
  show zA z 0 [(0, aR 51), (1, aI a1)] [] S
  unfold M_X12_holdsFor at h
  refine s_aload_n 0 hz dX12_holdsFor_0 rfl ?_
  refine s_iload_n 1 hz dX12_holdsFor_1 rfl ?_
  obtain ⟨r1, S2, hc2, h⟩ := zb_of h
  refine s_callVv [aI a1] [] hz ml_X12_383 sv_yX12_braids (T_X12_braids ra1 hW hc2) (by decide) rfl sf51 rfl rfl (Nat.le_of_ble_eq_true rfl) dX12_holdsFor_2 (fun hW2 => ?_)
  refine s_aload_n 0 hz dX12_holdsFor_5 rfl ?_
  refine s_iconst hz dX12_holdsFor_6 ?_
  obtain ⟨r3, S4, hc4, h⟩ := zb_of h
  refine s_callV [aI 0] [] hz ml_X12_377 sv_yX12_fewest (T_X12_fewest rl_0 hW2 hc4) (by decide) rfl sf51 rfl rfl (Nat.le_of_ble_eq_true rfl) dX12_holdsFor_7 (fun rr3 hW4 => ?_)
  refine s_istore_n (l' := [(2, aI r3), (0, aR 51), (1, aI a1)]) hz hN dX12_holdsFor_10 (by decide) rfl ?_
  refine s_iconst hz dX12_holdsFor_11 ?_
  refine s_istore_n (l' := [(3, aI 1), (2, aI r3), (0, aR 51), (1, aI a1)]) hz hN dX12_holdsFor_12 (by decide) rfl ?_
  refine s_pick (l' := [(0, aR 51), (1, aI a1), (2, aI r3), (3, aI 1)]) [2, 3, 1, 0] rfl ?_
  refine TL_X12_holdsFor_13 hz hN hF ?_ ra1 zBig rr3 rl_1 hW4 h
  · clear h 
    intro e2 S12 re2 hW12 h
    refine s_bipush hz dX12_holdsFor_39 bp_8 ?_
    refine s_iload_n 0 hz dX12_holdsFor_41 rfl ?_
    refine s_iconst hz dX12_holdsFor_42 ?_
    obtain ⟨g13, h⟩ := zg_of h
    refine s_idiv hz g13.1 g13.2 re2 rl_4 dX12_holdsFor_43 ?_
    refine s_iconst hz dX12_holdsFor_44 ?_
    refine s_iadd hz dX12_holdsFor_45 ?_
    obtain ⟨x14, ex14, rx14, h⟩ := zl_ex h
    rw [← ex14]
    obtain ⟨r15, S16, hc16, h⟩ := zb_of h
    refine s_callS [aI 8, aI x14] [] hz ml_X12_289 ss_yX12_least (T_X12_least rl_8 rx14 hW12 hc16) (by decide) rfl rfl (Nat.le_of_ble_eq_true rfl) dX12_holdsFor_46 (fun rr15 hW16 => ?_)
    exact s_iret h hz hF rr15 hW16 dX12_holdsFor_49
def M_X12_isOutNow (a1 : Int) (S : HS) : zO2 :=
  zg ((0 : Int) ≤ a1 ∧ a1 < 24) <|
  if S 71 a1 < 0 then (
    some (0, S))
  else (
    zg ((0 : Int) ≤ a1 ∧ a1 < 24) <|
    zb (M_X12_holdsFor a1 S) fun r4 S5 =>
    zl ((S 51 38) - (S 71 a1)) fun x6 =>
    if x6 < r4 then (
      some (0, S5))
    else (
      some (1, S5)))
set_option maxHeartbeats 4000000 in
set_option maxRecDepth 20000 in
theorem T_X12_isOutNow {a1 : Int} {S S' : HS} {r : Int} (ra1 : rng a1) (hW : WR shF S) (h : M_X12_isOutNow a1 S = some (r, S')) : zR shF yX12_isOutNow cX12_isOutNow 2  .boolean 9 [aR 51, aI a1] S r S' := by
  refine zR_of (by decide +kernel) (Nat.le_of_ble_eq_true rfl) (fun z hz hN hF => ?_)
  have hz : zO z cX12_isOutNow RX12 9 shF := hz
  show zA z 0 [(0, aR 51), (1, aI a1)] [] S
  unfold M_X12_isOutNow at h
  refine s_aload_n 0 hz dX12_isOutNow_0 rfl ?_
  refine s_getR 32 hz fl_X12_96 sf51 rfl (by decide) dX12_isOutNow_1 ?_
  refine s_iload_n 1 hz dX12_isOutNow_4 rfl ?_
  obtain ⟨g1, h⟩ := zg_of h
  refine s_iald hz sf71 rfl (by decide) g1 dX12_isOutNow_5 ?_
  refine s_if_lt 32 hz (hW 71 _ sf71 a1) dX12_isOutNow_6 rfl (fun c2 => ?_) (fun c2 => ?_)
  · have h := zif_t c2 h
    refine s_iconst hz dX12_isOutNow_32 ?_
    exact s_zret h hz hF (by decide) hW dX12_isOutNow_33
  · have h := zif_f c2 h
    refine s_aload_n 0 hz dX12_isOutNow_9 rfl ?_
    refine s_getI (kz := 38) 38 hz fl_X12_327 sf51 rfl rfl dX12_isOutNow_10 ?_
    refine s_aload_n 0 hz dX12_isOutNow_13 rfl ?_
    refine s_getR 32 hz fl_X12_96 sf51 rfl (by decide) dX12_isOutNow_14 ?_
    refine s_iload_n 1 hz dX12_isOutNow_17 rfl ?_
    obtain ⟨g3, h⟩ := zg_of h
    refine s_iald hz sf71 rfl (by decide) g3 dX12_isOutNow_18 ?_
    refine s_isub hz dX12_isOutNow_19 ?_
    refine s_aload_n 0 hz dX12_isOutNow_20 rfl ?_
    refine s_iload_n 1 hz dX12_isOutNow_21 rfl ?_
    obtain ⟨r4, S5, hc5, h⟩ := zb_of h
    refine s_callV [aI a1] [aI ((S 51 38) - (S 71 a1))] hz ml_X12_437 sv_yX12_holdsFor (T_X12_holdsFor ra1 hW hc5) (by decide) rfl sf51 rfl rfl (Nat.le_of_ble_eq_true rfl) dX12_isOutNow_22 (fun rr4 hW5 => ?_)
    obtain ⟨x6, ex6, rx6, h⟩ := zl_ex h
    rw [← ex6]
    refine s_icmp_lt 32 hz rx6 rr4 dX12_isOutNow_25 rfl (fun c7 => ?_) (fun c7 => ?_)
    · have h := zif_t c7 h
      refine s_iconst hz dX12_isOutNow_32 ?_
      exact s_zret h hz hF (by decide) hW5 dX12_isOutNow_33
    · have h := zif_f c7 h
      refine s_iconst hz dX12_isOutNow_28 ?_
      refine s_goto 33 hz dX12_isOutNow_29 rfl ?_
      exact s_zret h hz hF (by decide) hW5 dX12_isOutNow_33
def L_X12_timeOf_2 (k20 : HS → zO2) (p1 : Int) : Nat → Int → HS → zO2
  | 0, _, _ => none
  | n + 1, v2, S => 
    if 3 ≤ v2 then (
      k20 S)
    else (
      zg ((0 : Int) ≤ v2 ∧ v2 < 3) <|
      zs (up S 93 v2 0) fun S3 =>
      zl (v2 + 1) fun x4 =>
      L_X12_timeOf_2 k20 p1 n x4 S3)
set_option maxHeartbeats 4000000 in
set_option maxRecDepth 20000 in
theorem TL_X12_timeOf_2 {k20 : HS → zO2} {p1 : Int} {r : Int} {S' : HS} {z : Zt} (hz : zO z cX12_timeOf RX12 1 shF) (hN : zN z 5) (hF : zFi z shF .int r S') (hk20 : ∀ (S : HS), WR shF S → k20 S = some (r, S') → zA z 20 [(0, aR 51), (1, aI p1)] [] S) (rp1 : rng p1) : ∀ (n : Nat) {v2 : Int} {S : HS}, rng v2 → WR shF S → L_X12_timeOf_2 k20 p1 n v2 S = some (r, S') → zA z 2 [(0, aR 51), (1, aI p1), (2, aI v2)] [] S := by
  intro n
  induction n with
  | zero =>
    intro _ _ _ _ h
    cases h
  | succ n ih =>
    intro v2 S rv2 hW h
    rw [L_X12_timeOf_2.eq_2] at h
    refine s_iload_n 2 hz dX12_timeOf_2 rfl ?_
    refine s_iconst hz dX12_timeOf_3 ?_
    refine s_icmp_ge 20 hz rv2 rl_3 dX12_timeOf_4 rfl (fun c1 => ?_) (fun c1 => ?_)
    · have h := zif_t c1 h
      refine s_pick (l' := [(0, aR 51), (1, aI p1)]) [0, 1] rfl ?_
      exact hk20 _ hW h
    · have h := zif_f c1 h
      refine s_aload_n 0 hz dX12_timeOf_7 rfl ?_
      refine s_getR 61 hz fl_X12_162 sf51 rfl (by decide) dX12_timeOf_8 ?_
      refine s_iload_n 2 hz dX12_timeOf_11 rfl ?_
      refine s_iconst hz dX12_timeOf_12 ?_
      obtain ⟨g2, h⟩ := zg_of h
      obtain ⟨S3, eS3, h⟩ := zs_ex h
      have hW3 : WR shF S3 := by rw [eS3]; exact hW.up (i := v2) sf93 (v := 0) rl_0
      refine s_iast hz sf93 rfl (by decide) g2 dX12_timeOf_13 ?_
      rw [← eS3]
      obtain ⟨x4, ex4, rx4, h⟩ := zl_ex h
      refine s_iinc (k0 := 2) (y := x4) (l' := [(2, aI x4), (0, aR 51), (1, aI p1)]) hz hN dX12_timeOf_14 rfl ex4.symm (by decide) rfl ?_
      refine s_goto 2 hz dX12_timeOf_17 rfl ?_
      refine s_pick (l' := [(0, aR 51), (1, aI p1), (2, aI x4)]) [1, 2, 0] rfl ?_
      exact ih rx4 hW3 h
def L_X12_timeOf_29 (k94 : HS → zO2) : Nat → Int → Int → HS → zO2
  | 0, _, _, _ => none
  | n + 1, v2, v3, S => 
    if v3 < 0 then (
      k94 S)
    else (
      zg ((0 : Int) ≤ v2 ∧ (0 : Int) < 3) <|
      zl (v2 % 3) fun x9 =>
      zg ((0 : Int) ≤ v2 ∧ (0 : Int) < 3) <|
      zl (v2 / 3) fun x11 =>
      zg ((0 : Int) ≤ x9 ∧ x9 < 3) <|
      if S 89 x9 = 0 then (
        some ((-1), S))
      else (
        zg ((0 : Int) ≤ x9 ∧ x9 < 3) <|
        zg ((0 : Int) ≤ v3 ∧ v3 < 8) <|
        zg ((0 : Int) ≤ x9 ∧ x9 < 3) <|
        zg ((0 : Int) ≤ x9 ∧ x9 < 3) <|
        zl (((S 91 v3) + (S 89 x9)) - 1) fun x18 =>
        zg ((0 : Int) ≤ x18 ∧ (0 : Int) < S 89 x9) <|
        zl ((S 93 x9) + (x18 / (S 89 x9))) fun x20 =>
        zg ((0 : Int) ≤ x9 ∧ x9 < 3) <|
        zs (up S 93 x9 x20) fun S22 =>
        zl (v3 + (-1)) fun x23 =>
        L_X12_timeOf_29 k94 n x11 x23 S22))
set_option maxHeartbeats 4000000 in
set_option maxRecDepth 20000 in
theorem TL_X12_timeOf_29 {k94 : HS → zO2} {r : Int} {S' : HS} {z : Zt} (hz : zO z cX12_timeOf RX12 1 shF) (hN : zN z 5) (hF : zFi z shF .int r S') (hk94 : ∀ (S : HS), WR shF S → k94 S = some (r, S') → zA z 94 [(0, aR 51)] [] S) : ∀ (n : Nat) {v2 : Int} {v3 : Int} {S : HS}, rng v2 → rng v3 → WR shF S → L_X12_timeOf_29 k94 n v2 v3 S = some (r, S') → zA z 29 [(0, aR 51), (2, aI v2), (3, aI v3)] [] S := by
  intro n
  induction n with
  | zero =>
    intro _ _ _ _ _ _ h
    cases h
  | succ n ih =>
    intro v2 v3 S rv2 rv3 hW h
    rw [L_X12_timeOf_29.eq_2] at h
    refine s_iload_n 2 hz dX12_timeOf_29 rfl ?_
    refine s_if_lt 94 hz rv3 dX12_timeOf_30 rfl (fun c7 => ?_) (fun c7 => ?_)
    · have h := zif_t c7 h
      refine s_pick (l' := [(0, aR 51)]) [0] rfl ?_
      exact hk94 _ hW h
    · have h := zif_f c7 h
      refine s_iload_n 1 hz dX12_timeOf_33 rfl ?_
      refine s_iconst hz dX12_timeOf_34 ?_
      obtain ⟨g8, h⟩ := zg_of h
      refine s_irem hz g8.1 g8.2 rv2 rl_3 dX12_timeOf_35 ?_
      obtain ⟨x9, ex9, rx9, h⟩ := zl_ex h
      rw [← ex9]
      refine s_istore (l' := [(4, aI x9), (0, aR 51), (2, aI v2), (3, aI v3)]) hz hN dX12_timeOf_36 (by decide) rfl ?_
      refine s_iload_n 2 hz dX12_timeOf_38 rfl ?_
      refine s_iconst hz dX12_timeOf_39 ?_
      obtain ⟨g10, h⟩ := zg_of h
      refine s_idiv hz g10.1 g10.2 rv2 rl_3 dX12_timeOf_40 ?_
      obtain ⟨x11, ex11, rx11, h⟩ := zl_ex h
      rw [← ex11]
      refine s_istore_n (l' := [(2, aI x11), (4, aI x9), (0, aR 51), (3, aI v3)]) hz hN dX12_timeOf_41 (by decide) rfl ?_
      refine s_aload_n 2 hz dX12_timeOf_42 rfl ?_
      refine s_getR 55 hz fl_X12_150 sf51 rfl (by decide) dX12_timeOf_43 ?_
      refine s_iload 1 hz dX12_timeOf_46 rfl ?_
      obtain ⟨g12, h⟩ := zg_of h
      refine s_iald hz sf89 rfl (by decide) g12 dX12_timeOf_48 ?_
      refine s_if_ne 54 hz (hW 89 _ sf89 x9) dX12_timeOf_49 rfl (fun c13 => ?_) (fun c13 => ?_)
      · have h := zif_f c13 h
        refine s_aload_n 2 hz dX12_timeOf_54 rfl ?_
        refine s_getR 61 hz fl_X12_162 sf51 rfl (by decide) dX12_timeOf_55 ?_
        refine s_iload 1 hz dX12_timeOf_58 rfl ?_
        refine s_dup2 hz rfl rfl dX12_timeOf_60 ?_
        obtain ⟨g14, h⟩ := zg_of h
        refine s_iald hz sf93 rfl (by decide) g14 dX12_timeOf_61 ?_
        refine s_aload_n 2 hz dX12_timeOf_62 rfl ?_
        refine s_getR 58 hz fl_X12_156 sf51 rfl (by decide) dX12_timeOf_63 ?_
        refine s_iload_n 3 hz dX12_timeOf_66 rfl ?_
        obtain ⟨g15, h⟩ := zg_of h
        refine s_iald hz sf91 rfl (by decide) g15 dX12_timeOf_67 ?_
        refine s_aload_n 2 hz dX12_timeOf_68 rfl ?_
        refine s_getR 55 hz fl_X12_150 sf51 rfl (by decide) dX12_timeOf_69 ?_
        refine s_iload 1 hz dX12_timeOf_72 rfl ?_
        obtain ⟨g16, h⟩ := zg_of h
        refine s_iald hz sf89 rfl (by decide) g16 dX12_timeOf_74 ?_
        refine s_iadd hz dX12_timeOf_75 ?_
        refine s_iconst hz dX12_timeOf_76 ?_
        refine s_isub hz dX12_timeOf_77 ?_
        refine s_aload_n 2 hz dX12_timeOf_78 rfl ?_
        refine s_getR 55 hz fl_X12_150 sf51 rfl (by decide) dX12_timeOf_79 ?_
        refine s_iload 1 hz dX12_timeOf_82 rfl ?_
        obtain ⟨g17, h⟩ := zg_of h
        refine s_iald hz sf89 rfl (by decide) g17 dX12_timeOf_84 ?_
        obtain ⟨x18, ex18, rx18, h⟩ := zl_ex h
        rw [← ex18]
        obtain ⟨g19, h⟩ := zg_of h
        refine s_idiv hz g19.1 g19.2 rx18 (hW 89 _ sf89 x9) dX12_timeOf_85 ?_
        refine s_iadd hz dX12_timeOf_86 ?_
        obtain ⟨x20, ex20, rx20, h⟩ := zl_ex h
        rw [← ex20]
        obtain ⟨g21, h⟩ := zg_of h
        obtain ⟨S22, eS22, h⟩ := zs_ex h
        have hW22 : WR shF S22 := by rw [eS22]; exact hW.up (i := x9) sf93 (v := x20) rx20
        refine s_iast hz sf93 rfl (by decide) g21 dX12_timeOf_87 ?_
        rw [← eS22]
        obtain ⟨x23, ex23, rx23, h⟩ := zl_ex h
        refine s_iinc (k0 := 3) (y := x23) (l' := [(3, aI x23), (2, aI x11), (4, aI x9), (0, aR 51)]) hz hN dX12_timeOf_88 rfl ex23.symm (by decide) rfl ?_
        refine s_goto 29 hz dX12_timeOf_91 rfl ?_
        refine s_pick (l' := [(0, aR 51), (2, aI x11), (3, aI x23)]) [3, 1, 0] rfl ?_
        exact ih rx11 rx23 hW22 h
      · have h := zif_t c13 h
        refine s_iconst hz dX12_timeOf_52 ?_
        exact s_iret h hz hF rl_m1 hW dX12_timeOf_53
def J_X12_timeOf_121 (t0 : Int) (S : HS) : zO2 :=
  if S 93 2 ≤ t0 then (
    some (t0, S))
  else (
    some (S 93 2, S))
set_option maxHeartbeats 4000000 in
set_option maxRecDepth 20000 in
theorem TJ_X12_timeOf_121 {t0 : Int} {S : HS} {r : Int} {S' : HS} {z : Zt} (hz : zO z cX12_timeOf RX12 1 shF) (hN : zN z 5) (hF : zFi z shF .int r S') (rt0 : rng t0) (hW : WR shF S) (h : J_X12_timeOf_121 t0 S = some (r, S')) : zA z 121 [(0, aR 51)] [aI t0] S := by
  unfold J_X12_timeOf_121 at h
  refine s_istore_n (l' := [(3, aI t0), (0, aR 51)]) hz hN dX12_timeOf_121 (by decide) rfl ?_
  refine s_aload_n 1 hz dX12_timeOf_122 rfl ?_
  refine s_getR 61 hz fl_X12_162 sf51 rfl (by decide) dX12_timeOf_123 ?_
  refine s_iconst hz dX12_timeOf_126 ?_
  refine s_iald hz sf93 rfl (by decide) (by decide) dX12_timeOf_127 ?_
  refine s_iload_n 0 hz dX12_timeOf_128 rfl ?_
  refine s_icmp_le 141 hz (hW 93 _ sf93 2) rt0 dX12_timeOf_129 rfl (fun c26 => ?_) (fun c26 => ?_)
  · have h := zif_t c26 h
    refine s_iload_n 0 hz dX12_timeOf_141 rfl ?_
    exact s_iret h hz hF rt0 hW dX12_timeOf_142
  · have h := zif_f c26 h
    refine s_aload_n 1 hz dX12_timeOf_132 rfl ?_
    refine s_getR 61 hz fl_X12_162 sf51 rfl (by decide) dX12_timeOf_133 ?_
    refine s_iconst hz dX12_timeOf_136 ?_
    refine s_iald hz sf93 rfl (by decide) (by decide) dX12_timeOf_137 ?_
    refine s_goto 142 hz dX12_timeOf_138 rfl ?_
    exact s_iret h hz hF (hW 93 _ sf93 2) hW dX12_timeOf_142
def M_X12_timeOf (a1 : Int) (S : HS) : zO2 :=
  L_X12_timeOf_2 (fun S5 =>
      zl ((S5 51 56) - 1) fun x6 =>
      L_X12_timeOf_29 (fun S24 =>
          if S24 93 1 ≤ S24 93 0 then (
            J_X12_timeOf_121 (S24 93 0) S24)
          else (
            J_X12_timeOf_121 (S24 93 1) S24)) zBig a1 x6 S5) a1 zBig 0 S
set_option maxHeartbeats 4000000 in
set_option maxRecDepth 20000 in
theorem T_X12_timeOf {a1 : Int} {S S' : HS} {r : Int} (ra1 : rng a1) (hW : WR shF S) (h : M_X12_timeOf a1 S = some (r, S')) : zR shF yX12_timeOf cX12_timeOf 5  .int 1 [aR 51, aI a1] S r S' := by
  refine zR_of (by decide +kernel) (Nat.le_of_ble_eq_true rfl) (fun z hz hN hF => ?_)
  have hz : zO z cX12_timeOf RX12 1 shF := hz
  show zA z 0 [(0, aR 51), (1, aI a1)] [] S
  unfold M_X12_timeOf at h
  refine s_iconst hz dX12_timeOf_0 ?_
  refine s_istore_n (l' := [(2, aI 0), (0, aR 51), (1, aI a1)]) hz hN dX12_timeOf_1 (by decide) rfl ?_
  refine s_pick (l' := [(0, aR 51), (1, aI a1), (2, aI 0)]) [1, 2, 0] rfl ?_
  refine TL_X12_timeOf_2 hz hN hF ?_ ra1 zBig rl_0 hW h
  · clear h 
    intro S5 hW5 h
    refine s_iload_n 1 hz dX12_timeOf_20 rfl ?_
    refine s_istore_n (l' := [(2, aI a1), (0, aR 51), (1, aI a1)]) hz hN dX12_timeOf_21 (by decide) rfl ?_
    refine s_aload_n 1 hz dX12_timeOf_22 rfl ?_
    refine s_getI (kz := 56) 56 hz fl_X12_422 sf51 rfl rfl dX12_timeOf_23 ?_
    refine s_iconst hz dX12_timeOf_26 ?_
    refine s_isub hz dX12_timeOf_27 ?_
    obtain ⟨x6, ex6, rx6, h⟩ := zl_ex h
    rw [← ex6]
    refine s_istore_n (l' := [(3, aI x6), (2, aI a1), (0, aR 51), (1, aI a1)]) hz hN dX12_timeOf_28 (by decide) rfl ?_
    refine s_pick (l' := [(0, aR 51), (2, aI a1), (3, aI x6)]) [2, 1, 0] rfl ?_
    refine TL_X12_timeOf_29 hz hN hF ?_ zBig ra1 rx6 hW5 h
    · clear h 
      intro S24 hW24 h
      refine s_aload_n 0 hz dX12_timeOf_94 rfl ?_
      refine s_getR 61 hz fl_X12_162 sf51 rfl (by decide) dX12_timeOf_95 ?_
      refine s_iconst hz dX12_timeOf_98 ?_
      refine s_iald hz sf93 rfl (by decide) (by decide) dX12_timeOf_99 ?_
      refine s_istore_n (l' := [(3, aI (S24 93 0)), (0, aR 51)]) hz hN dX12_timeOf_100 (by decide) rfl ?_
      refine s_aload_n 1 hz dX12_timeOf_101 rfl ?_
      refine s_getR 61 hz fl_X12_162 sf51 rfl (by decide) dX12_timeOf_102 ?_
      refine s_iconst hz dX12_timeOf_105 ?_
      refine s_iald hz sf93 rfl (by decide) (by decide) dX12_timeOf_106 ?_
      refine s_iload_n 0 hz dX12_timeOf_107 rfl ?_
      refine s_icmp_le 120 hz (hW24 93 _ sf93 1) (hW24 93 _ sf93 0) dX12_timeOf_108 rfl (fun c25 => ?_) (fun c25 => ?_)
      · have h := zif_t c25 h
        refine s_iload_n 0 hz dX12_timeOf_120 rfl ?_
        refine s_pick (l' := [(0, aR 51)]) [1] rfl ?_
        exact TJ_X12_timeOf_121 hz hN hF (hW24 93 _ sf93 0) hW24 h
      · have h := zif_f c25 h
        refine s_aload_n 1 hz dX12_timeOf_111 rfl ?_
        refine s_getR 61 hz fl_X12_162 sf51 rfl (by decide) dX12_timeOf_112 ?_
        refine s_iconst hz dX12_timeOf_115 ?_
        refine s_iald hz sf93 rfl (by decide) (by decide) dX12_timeOf_116 ?_
        refine s_goto 121 hz dX12_timeOf_117 rfl ?_
        refine s_pick (l' := [(0, aR 51)]) [1] rfl ?_
        exact TJ_X12_timeOf_121 hz hN hF (hW24 93 _ sf93 1) hW24 h
def J_X12_findPlan_75 (k7 : Int → HS → zO2) (v1 : Int) (S : HS) : zO2 :=
  zl (v1 + 1) fun x14 =>
  k7 x14 S
set_option maxHeartbeats 4000000 in
set_option maxRecDepth 20000 in
theorem TJ_X12_findPlan_75 {k7 : Int → HS → zO2} {v1 : Int} {S : HS} {r : Int} {S' : HS} {z : Zt} (hz : zO z cX12_findPlan RX12 10 shF) (hN : zN z 6) (hF : zFv z shF S') (hk7 : ∀ (w1 : Int) (S : HS), rng w1 → WR shF S → k7 w1 S = some (r, S') → zA z 7 [(0, aR 51), (1, aI w1)] [] S) (rv1 : rng v1) (hW : WR shF S) (h : J_X12_findPlan_75 k7 v1 S = some (r, S')) : zA z 75 [(0, aR 51), (1, aI v1)] [] S := by
  unfold J_X12_findPlan_75 at h
  obtain ⟨x14, ex14, rx14, h⟩ := zl_ex h
  refine s_iinc (k0 := 1) (y := x14) (l' := [(1, aI x14), (0, aR 51)]) hz hN dX12_findPlan_75 rfl ex14.symm (by decide) rfl ?_
  refine s_goto 7 hz dX12_findPlan_78 rfl ?_
  refine s_pick (l' := [(0, aR 51), (1, aI x14)]) [1, 0] rfl ?_
  exact hk7 _ _ rx14 hW h
def J_X12_findPlan_41 (k7 : Int → HS → zO2) (v1 : Int) (S : HS) : zO2 :=
  zg ((0 : Int) ≤ S 51 56 ∧ S 51 56 < 8) <|
  zs (up S 90 (S 51 56) v1) fun S7 =>
  zb (M_X12_workOf v1 S7) fun r8 S9 =>
  zg ((0 : Int) ≤ S7 51 56 ∧ S7 51 56 < 8) <|
  zs (up S9 91 (S7 51 56) r8) fun S11 =>
  zl ((S11 51 56) + 1) fun x12 =>
  zs (up S11 51 56 x12) fun S13 =>
  J_X12_findPlan_75 k7 v1 S13
set_option maxHeartbeats 4000000 in
set_option maxRecDepth 20000 in
theorem TJ_X12_findPlan_41 {k7 : Int → HS → zO2} {v1 : Int} {S : HS} {r : Int} {S' : HS} {z : Zt} (hz : zO z cX12_findPlan RX12 10 shF) (hN : zN z 6) (hF : zFv z shF S') (hk7 : ∀ (w1 : Int) (S : HS), rng w1 → WR shF S → k7 w1 S = some (r, S') → zA z 7 [(0, aR 51), (1, aI w1)] [] S) (rv1 : rng v1) (hW : WR shF S) (h : J_X12_findPlan_41 k7 v1 S = some (r, S')) : zA z 41 [(0, aR 51), (1, aI v1)] [] S := by
  unfold J_X12_findPlan_41 at h
  refine s_aload_n 0 hz dX12_findPlan_41 rfl ?_
  refine s_getR 57 hz fl_X12_153 sf51 rfl (by decide) dX12_findPlan_42 ?_
  refine s_aload_n 0 hz dX12_findPlan_45 rfl ?_
  refine s_getI (kz := 56) 56 hz fl_X12_422 sf51 rfl rfl dX12_findPlan_46 ?_
  refine s_iload_n 1 hz dX12_findPlan_49 rfl ?_
  obtain ⟨g6, h⟩ := zg_of h
  obtain ⟨S7, eS7, h⟩ := zs_ex h
  have hW7 : WR shF S7 := by rw [eS7]; exact hW.up (i := (S 51 56)) sf90 (v := v1) rv1
  refine s_iast hz sf90 rfl (by decide) g6 dX12_findPlan_50 ?_
  rw [← eS7]
  refine s_aload_n 0 hz dX12_findPlan_51 rfl ?_
  refine s_getR 58 hz fl_X12_156 sf51 rfl (by decide) dX12_findPlan_52 ?_
  refine s_aload_n 0 hz dX12_findPlan_55 rfl ?_
  refine s_getI (kz := 56) 56 hz fl_X12_422 sf51 rfl rfl dX12_findPlan_56 ?_
  refine s_aload_n 0 hz dX12_findPlan_59 rfl ?_
  refine s_iload_n 1 hz dX12_findPlan_60 rfl ?_
  obtain ⟨r8, S9, hc9, h⟩ := zb_of h
  refine s_callV [aI v1] [aI (S7 51 56), aR 91] hz ml_X12_419 sv_yX12_workOf (T_X12_workOf rv1 hW7 hc9) (by decide) rfl sf51 rfl rfl (Nat.le_of_ble_eq_true rfl) dX12_findPlan_61 (fun rr8 hW9 => ?_)
  obtain ⟨g10, h⟩ := zg_of h
  obtain ⟨S11, eS11, h⟩ := zs_ex h
  have hW11 : WR shF S11 := by rw [eS11]; exact hW9.up (i := (S7 51 56)) sf91 (v := r8) rr8
  refine s_iast hz sf91 rfl (by decide) g10 dX12_findPlan_64 ?_
  rw [← eS11]
  refine s_aload_n 0 hz dX12_findPlan_65 rfl ?_
  refine s_dup hz rfl dX12_findPlan_66 ?_
  refine s_getI (kz := 56) 56 hz fl_X12_422 sf51 rfl rfl dX12_findPlan_67 ?_
  refine s_iconst hz dX12_findPlan_70 ?_
  refine s_iadd hz dX12_findPlan_71 ?_
  obtain ⟨x12, ex12, rx12, h⟩ := zl_ex h
  rw [← ex12]
  obtain ⟨S13, eS13, h⟩ := zs_ex h
  have hW13 : WR shF S13 := by rw [eS13]; exact hW11.up (i := 56) sf51 (v := x12) rx12
  refine s_putI (kz := 56) 56 hz fp_X12_422 sf51 rfl rfl dX12_findPlan_72 ?_
  rw [← eS13]
  exact TJ_X12_findPlan_75 hz hN hF hk7 rv1 hW13 h
def L_X12_findPlan_7 (k81 : HS → zO2) : Nat → Int → HS → zO2
  | 0, _, _ => none
  | n + 1, v1, S => 
    if S 51 27 ≤ v1 then (
      k81 S)
    else (
      if 8 ≤ S 51 56 then (
        k81 S)
      else (
        zg ((0 : Int) ≤ v1 ∧ v1 < 24) <|
        if S 71 v1 < 0 then (
          J_X12_findPlan_41 (L_X12_findPlan_7 k81 n) v1 S)
        else (
          zb (M_X12_isOutNow v1 S) fun r15 S16 =>
          if r15 = 0 then (
            J_X12_findPlan_75 (L_X12_findPlan_7 k81 n) v1 S16)
          else (
            J_X12_findPlan_41 (L_X12_findPlan_7 k81 n) v1 S16))))
set_option maxHeartbeats 4000000 in
set_option maxRecDepth 20000 in
theorem TL_X12_findPlan_7 {k81 : HS → zO2} {r : Int} {S' : HS} {z : Zt} (hz : zO z cX12_findPlan RX12 10 shF) (hN : zN z 6) (hF : zFv z shF S') (hk81 : ∀ (S : HS), WR shF S → k81 S = some (r, S') → zA z 81 [(0, aR 51)] [] S) : ∀ (n : Nat) {v1 : Int} {S : HS}, rng v1 → WR shF S → L_X12_findPlan_7 k81 n v1 S = some (r, S') → zA z 7 [(0, aR 51), (1, aI v1)] [] S := by
  intro n
  induction n with
  | zero =>
    intro _ _ _ _ h
    cases h
  | succ n ih =>
    intro v1 S rv1 hW h
    rw [L_X12_findPlan_7.eq_2] at h
    refine s_iload_n 1 hz dX12_findPlan_7 rfl ?_
    refine s_aload_n 0 hz dX12_findPlan_8 rfl ?_
    refine s_getI (kz := 27) 27 hz fl_X12_256 sf51 rfl rfl dX12_findPlan_9 ?_
    refine s_icmp_ge 81 hz rv1 (hW 51 _ sf51 27) dX12_findPlan_12 rfl (fun c2 => ?_) (fun c2 => ?_)
    · have h := zif_t c2 h
      refine s_pick (l' := [(0, aR 51)]) [0] rfl ?_
      exact hk81 _ hW h
    · have h := zif_f c2 h
      refine s_aload_n 0 hz dX12_findPlan_15 rfl ?_
      refine s_getI (kz := 56) 56 hz fl_X12_422 sf51 rfl rfl dX12_findPlan_16 ?_
      refine s_bipush hz dX12_findPlan_19 bp_8 ?_
      refine s_icmp_ge 81 hz (hW 51 _ sf51 56) rl_8 dX12_findPlan_21 rfl (fun c3 => ?_) (fun c3 => ?_)
      · have h := zif_t c3 h
        refine s_pick (l' := [(0, aR 51)]) [0] rfl ?_
        exact hk81 _ hW h
      · have h := zif_f c3 h
        refine s_aload_n 0 hz dX12_findPlan_24 rfl ?_
        refine s_getR 32 hz fl_X12_96 sf51 rfl (by decide) dX12_findPlan_25 ?_
        refine s_iload_n 1 hz dX12_findPlan_28 rfl ?_
        obtain ⟨g4, h⟩ := zg_of h
        refine s_iald hz sf71 rfl (by decide) g4 dX12_findPlan_29 ?_
        refine s_if_lt 41 hz (hW 71 _ sf71 v1) dX12_findPlan_30 rfl (fun c5 => ?_) (fun c5 => ?_)
        · have h := zif_t c5 h
          exact TJ_X12_findPlan_41 hz hN hF (fun _ _ => ih) rv1 hW h
        · have h := zif_f c5 h
          refine s_aload_n 0 hz dX12_findPlan_33 rfl ?_
          refine s_iload_n 1 hz dX12_findPlan_34 rfl ?_
          obtain ⟨r15, S16, hc16, h⟩ := zb_of h
          refine s_callV [aI v1] [] hz ml_X12_425 sv_yX12_isOutNow (T_X12_isOutNow rv1 hW hc16) (by decide) rfl sf51 rfl rfl (Nat.le_of_ble_eq_true rfl) dX12_findPlan_35 (fun rr15 hW16 => ?_)
          refine s_if_eq 75 hz rr15 dX12_findPlan_38 rfl (fun c17 => ?_) (fun c17 => ?_)
          · have h := zif_t c17 h
            exact TJ_X12_findPlan_75 hz hN hF (fun _ _ => ih) rv1 hW16 h
          · have h := zif_f c17 h
            exact TJ_X12_findPlan_41 hz hN hF (fun _ _ => ih) rv1 hW16 h
def L_X12_findPlan_85 (k103 : Int → HS → zO2) : Nat → Int → Int → HS → zO2
  | 0, _, _, _ => none
  | n + 1, v1, v2, S => 
    if S 51 56 ≤ v2 then (
      k103 v1 S)
    else (
      zl (v1 * 3) fun x20 =>
      zl (v2 + 1) fun x21 =>
      L_X12_findPlan_85 k103 n x20 x21 S)
set_option maxHeartbeats 4000000 in
set_option maxRecDepth 20000 in
theorem TL_X12_findPlan_85 {k103 : Int → HS → zO2} {r : Int} {S' : HS} {z : Zt} (hz : zO z cX12_findPlan RX12 10 shF) (hN : zN z 6) (hF : zFv z shF S') (hk103 : ∀ (w1 : Int) (S : HS), rng w1 → WR shF S → k103 w1 S = some (r, S') → zA z 103 [(0, aR 51), (1, aI w1)] [] S) : ∀ (n : Nat) {v1 : Int} {v2 : Int} {S : HS}, rng v1 → rng v2 → WR shF S → L_X12_findPlan_85 k103 n v1 v2 S = some (r, S') → zA z 85 [(0, aR 51), (1, aI v1), (2, aI v2)] [] S := by
  intro n
  induction n with
  | zero =>
    intro _ _ _ _ _ _ h
    cases h
  | succ n ih =>
    intro v1 v2 S rv1 rv2 hW h
    rw [L_X12_findPlan_85.eq_2] at h
    refine s_iload_n 2 hz dX12_findPlan_85 rfl ?_
    refine s_aload_n 0 hz dX12_findPlan_86 rfl ?_
    refine s_getI (kz := 56) 56 hz fl_X12_422 sf51 rfl rfl dX12_findPlan_87 ?_
    refine s_icmp_ge 103 hz rv2 (hW 51 _ sf51 56) dX12_findPlan_90 rfl (fun c19 => ?_) (fun c19 => ?_)
    · have h := zif_t c19 h
      refine s_pick (l' := [(0, aR 51), (1, aI v1)]) [0, 1] rfl ?_
      exact hk103 _ _ rv1 hW h
    · have h := zif_f c19 h
      refine s_iload_n 1 hz dX12_findPlan_93 rfl ?_
      refine s_iconst hz dX12_findPlan_94 ?_
      refine s_imul hz dX12_findPlan_95 ?_
      obtain ⟨x20, ex20, rx20, h⟩ := zl_ex h
      rw [← ex20]
      refine s_istore_n (l' := [(1, aI x20), (0, aR 51), (2, aI v2)]) hz hN dX12_findPlan_96 (by decide) rfl ?_
      obtain ⟨x21, ex21, rx21, h⟩ := zl_ex h
      refine s_iinc (k0 := 2) (y := x21) (l' := [(2, aI x21), (1, aI x20), (0, aR 51)]) hz hN dX12_findPlan_97 rfl ex21.symm (by decide) rfl ?_
      refine s_goto 85 hz dX12_findPlan_100 rfl ?_
      refine s_pick (l' := [(0, aR 51), (1, aI x20), (2, aI x21)]) [2, 1, 0] rfl ?_
      exact ih rx20 rx21 hW h
def J_X12_findPlan_184 (k110 : Int → HS → zO2) (v1 : Int) (v2 : Int) (S : HS) : zO2 :=
  zl (v2 + 1) fun x28 =>
  k110 x28 S
set_option maxHeartbeats 4000000 in
set_option maxRecDepth 20000 in
theorem TJ_X12_findPlan_184 {k110 : Int → HS → zO2} {v1 : Int} {v2 : Int} {S : HS} {r : Int} {S' : HS} {z : Zt} (hz : zO z cX12_findPlan RX12 10 shF) (hN : zN z 6) (hF : zFv z shF S') (hk110 : ∀ (w2 : Int) (S : HS), rng w2 → WR shF S → k110 w2 S = some (r, S') → zA z 110 [(0, aR 51), (1, aI v1), (2, aI w2)] [] S) (rv1 : rng v1) (rv2 : rng v2) (hW : WR shF S) (h : J_X12_findPlan_184 k110 v1 v2 S = some (r, S')) : zA z 184 [(0, aR 51), (1, aI v1), (2, aI v2)] [] S := by
  unfold J_X12_findPlan_184 at h
  obtain ⟨x28, ex28, rx28, h⟩ := zl_ex h
  refine s_iinc (k0 := 2) (y := x28) (l' := [(2, aI x28), (0, aR 51), (1, aI v1)]) hz hN dX12_findPlan_184 rfl ex28.symm (by decide) rfl ?_
  refine s_goto 110 hz dX12_findPlan_187 rfl ?_
  refine s_pick (l' := [(0, aR 51), (1, aI v1), (2, aI x28)]) [1, 2, 0] rfl ?_
  exact hk110 _ _ rx28 hW h
def L_X12_findPlan_156 (k184 : HS → zO2) (p1 : Int) (p2 : Int) : Nat → Int → Int → HS → zO2
  | 0, _, _, _ => none
  | n + 1, v4, v5, S => 
    if v5 < 0 then (
      k184 S)
    else (
      zg ((0 : Int) ≤ v4 ∧ (0 : Int) < 3) <|
      zl (v4 % 3) fun x34 =>
      zg ((0 : Int) ≤ v5 ∧ v5 < 8) <|
      zs (up S 92 v5 x34) fun S36 =>
      zg ((0 : Int) ≤ v4 ∧ (0 : Int) < 3) <|
      zl (v4 / 3) fun x38 =>
      zl (v5 + (-1)) fun x39 =>
      L_X12_findPlan_156 k184 p1 p2 n x38 x39 S36)
set_option maxHeartbeats 4000000 in
set_option maxRecDepth 20000 in
theorem TL_X12_findPlan_156 {k184 : HS → zO2} {p1 : Int} {p2 : Int} {r : Int} {S' : HS} {z : Zt} (hz : zO z cX12_findPlan RX12 10 shF) (hN : zN z 6) (hF : zFv z shF S') (hk184 : ∀ (S : HS), WR shF S → k184 S = some (r, S') → zA z 184 [(0, aR 51), (1, aI p1), (2, aI p2)] [] S) (rp1 : rng p1) (rp2 : rng p2) : ∀ (n : Nat) {v4 : Int} {v5 : Int} {S : HS}, rng v4 → rng v5 → WR shF S → L_X12_findPlan_156 k184 p1 p2 n v4 v5 S = some (r, S') → zA z 156 [(0, aR 51), (1, aI p1), (2, aI p2), (4, aI v4), (5, aI v5)] [] S := by
  intro n
  induction n with
  | zero =>
    intro _ _ _ _ _ _ h
    cases h
  | succ n ih =>
    intro v4 v5 S rv4 rv5 hW h
    rw [L_X12_findPlan_156.eq_2] at h
    refine s_iload 4 hz dX12_findPlan_156 rfl ?_
    refine s_if_lt 184 hz rv5 dX12_findPlan_158 rfl (fun c32 => ?_) (fun c32 => ?_)
    · have h := zif_t c32 h
      refine s_pick (l' := [(0, aR 51), (1, aI p1), (2, aI p2)]) [0, 1, 2] rfl ?_
      exact hk184 _ hW h
    · have h := zif_f c32 h
      refine s_aload_n 0 hz dX12_findPlan_161 rfl ?_
      refine s_getR 59 hz fl_X12_159 sf51 rfl (by decide) dX12_findPlan_162 ?_
      refine s_iload 4 hz dX12_findPlan_165 rfl ?_
      refine s_iload 3 hz dX12_findPlan_167 rfl ?_
      refine s_iconst hz dX12_findPlan_169 ?_
      obtain ⟨g33, h⟩ := zg_of h
      refine s_irem hz g33.1 g33.2 rv4 rl_3 dX12_findPlan_170 ?_
      obtain ⟨x34, ex34, rx34, h⟩ := zl_ex h
      rw [← ex34]
      obtain ⟨g35, h⟩ := zg_of h
      obtain ⟨S36, eS36, h⟩ := zs_ex h
      have hW36 : WR shF S36 := by rw [eS36]; exact hW.up (i := v5) sf92 (v := x34) rx34
      refine s_iast hz sf92 rfl (by decide) g35 dX12_findPlan_171 ?_
      rw [← eS36]
      refine s_iload 3 hz dX12_findPlan_172 rfl ?_
      refine s_iconst hz dX12_findPlan_174 ?_
      obtain ⟨g37, h⟩ := zg_of h
      refine s_idiv hz g37.1 g37.2 rv4 rl_3 dX12_findPlan_175 ?_
      obtain ⟨x38, ex38, rx38, h⟩ := zl_ex h
      rw [← ex38]
      refine s_istore (l' := [(4, aI x38), (0, aR 51), (1, aI p1), (2, aI p2), (5, aI v5)]) hz hN dX12_findPlan_176 (by decide) rfl ?_
      obtain ⟨x39, ex39, rx39, h⟩ := zl_ex h
      refine s_iinc (k0 := 4) (y := x39) (l' := [(5, aI x39), (4, aI x38), (0, aR 51), (1, aI p1), (2, aI p2)]) hz hN dX12_findPlan_178 rfl ex39.symm (by decide) rfl ?_
      refine s_goto 156 hz dX12_findPlan_181 rfl ?_
      refine s_pick (l' := [(0, aR 51), (1, aI p1), (2, aI p2), (4, aI x38), (5, aI x39)]) [2, 3, 4, 1, 0] rfl ?_
      exact ih rx38 rx39 hW36 h
def J_X12_findPlan_140 (k110 : Int → HS → zO2) (v1 : Int) (v2 : Int) (v3 : Int) (S : HS) : zO2 :=
  zs (up S 51 60 v3) fun S30 =>
  zl ((S30 51 56) - 1) fun x31 =>
  L_X12_findPlan_156 (fun S40 =>
      J_X12_findPlan_184 k110 v1 v2 S40) v1 v2 zBig v2 x31 S30
set_option maxHeartbeats 4000000 in
set_option maxRecDepth 20000 in
theorem TJ_X12_findPlan_140 {k110 : Int → HS → zO2} {v1 : Int} {v2 : Int} {v3 : Int} {S : HS} {r : Int} {S' : HS} {z : Zt} (hz : zO z cX12_findPlan RX12 10 shF) (hN : zN z 6) (hF : zFv z shF S') (hk110 : ∀ (w2 : Int) (S : HS), rng w2 → WR shF S → k110 w2 S = some (r, S') → zA z 110 [(0, aR 51), (1, aI v1), (2, aI w2)] [] S) (rv1 : rng v1) (rv2 : rng v2) (rv3 : rng v3) (hW : WR shF S) (h : J_X12_findPlan_140 k110 v1 v2 v3 S = some (r, S')) : zA z 140 [(0, aR 51), (1, aI v1), (2, aI v2), (3, aI v3)] [] S := by
  unfold J_X12_findPlan_140 at h
  refine s_aload_n 0 hz dX12_findPlan_140 rfl ?_
  refine s_iload_n 3 hz dX12_findPlan_141 rfl ?_
  obtain ⟨S30, eS30, h⟩ := zs_ex h
  have hW30 : WR shF S30 := by rw [eS30]; exact hW.up (i := 60) sf51 (v := v3) rv3
  refine s_putI (kz := 60) 60 hz fp_X12_428 sf51 rfl rfl dX12_findPlan_142 ?_
  rw [← eS30]
  refine s_iload_n 2 hz dX12_findPlan_145 rfl ?_
  refine s_istore (l' := [(4, aI v2), (0, aR 51), (1, aI v1), (2, aI v2), (3, aI v3)]) hz hN dX12_findPlan_146 (by decide) rfl ?_
  refine s_aload_n 1 hz dX12_findPlan_148 rfl ?_
  refine s_getI (kz := 56) 56 hz fl_X12_422 sf51 rfl rfl dX12_findPlan_149 ?_
  refine s_iconst hz dX12_findPlan_152 ?_
  refine s_isub hz dX12_findPlan_153 ?_
  obtain ⟨x31, ex31, rx31, h⟩ := zl_ex h
  rw [← ex31]
  refine s_istore (l' := [(5, aI x31), (4, aI v2), (0, aR 51), (1, aI v1), (2, aI v2), (3, aI v3)]) hz hN dX12_findPlan_154 (by decide) rfl ?_
  refine s_pick (l' := [(0, aR 51), (1, aI v1), (2, aI v2), (4, aI v2), (5, aI x31)]) [2, 3, 4, 1, 0] rfl ?_
  refine TL_X12_findPlan_156 hz hN hF ?_ rv1 rv2 zBig rv2 rx31 hW30 h
  · clear h 
    intro S40 hW40 h
    exact TJ_X12_findPlan_184 hz hN hF hk110 rv1 rv2 hW40 h
def L_X12_findPlan_110 (p1 : Int) : Nat → Int → HS → zO2
  | 0, _, _ => none
  | n + 1, v2, S => 
    if p1 ≤ v2 then (
      some (0, S))
    else (
      zb (M_X12_timeOf v2 S) fun r25 S26 =>
      if r25 < 0 then (
        J_X12_findPlan_184 (L_X12_findPlan_110 p1 n) p1 v2 S26)
      else (
        if S26 51 60 < 0 then (
          J_X12_findPlan_140 (L_X12_findPlan_110 p1 n) p1 v2 r25 S26)
        else (
          if S26 51 60 ≤ r25 then (
            J_X12_findPlan_184 (L_X12_findPlan_110 p1 n) p1 v2 S26)
          else (
            J_X12_findPlan_140 (L_X12_findPlan_110 p1 n) p1 v2 r25 S26))))
set_option maxHeartbeats 4000000 in
set_option maxRecDepth 20000 in
theorem TL_X12_findPlan_110 {p1 : Int} {r : Int} {S' : HS} {z : Zt} (hz : zO z cX12_findPlan RX12 10 shF) (hN : zN z 6) (hF : zFv z shF S') (rp1 : rng p1) : ∀ (n : Nat) {v2 : Int} {S : HS}, rng v2 → WR shF S → L_X12_findPlan_110 p1 n v2 S = some (r, S') → zA z 110 [(0, aR 51), (1, aI p1), (2, aI v2)] [] S := by
  intro n
  induction n with
  | zero =>
    intro _ _ _ _ h
    cases h
  | succ n ih =>
    intro v2 S rv2 hW h
    rw [L_X12_findPlan_110.eq_2] at h
    refine s_iload_n 2 hz dX12_findPlan_110 rfl ?_
    refine s_iload_n 1 hz dX12_findPlan_111 rfl ?_
    refine s_icmp_ge 190 hz rv2 rp1 dX12_findPlan_112 rfl (fun c24 => ?_) (fun c24 => ?_)
    · have h := zif_t c24 h
      exact s_vret h hz hF hW dX12_findPlan_190
    · have h := zif_f c24 h
      refine s_aload_n 0 hz dX12_findPlan_115 rfl ?_
      refine s_iload_n 2 hz dX12_findPlan_116 rfl ?_
      obtain ⟨r25, S26, hc26, h⟩ := zb_of h
      refine s_callV [aI v2] [] hz ml_X12_431 sv_yX12_timeOf (T_X12_timeOf rv2 hW hc26) (by decide) rfl sf51 rfl rfl (Nat.le_of_ble_eq_true rfl) dX12_findPlan_117 (fun rr25 hW26 => ?_)
      refine s_istore_n (l' := [(3, aI r25), (0, aR 51), (1, aI p1), (2, aI v2)]) hz hN dX12_findPlan_120 (by decide) rfl ?_
      refine s_iload_n 0 hz dX12_findPlan_121 rfl ?_
      refine s_if_lt 184 hz rr25 dX12_findPlan_122 rfl (fun c27 => ?_) (fun c27 => ?_)
      · have h := zif_t c27 h
        refine s_pick (l' := [(0, aR 51), (1, aI p1), (2, aI v2)]) [1, 2, 3] rfl ?_
        exact TJ_X12_findPlan_184 hz hN hF (fun _ _ => ih) rp1 rv2 hW26 h
      · have h := zif_f c27 h
        refine s_aload_n 1 hz dX12_findPlan_125 rfl ?_
        refine s_getI (kz := 60) 60 hz fl_X12_428 sf51 rfl rfl dX12_findPlan_126 ?_
        refine s_if_lt 140 hz (hW26 51 _ sf51 60) dX12_findPlan_129 rfl (fun c29 => ?_) (fun c29 => ?_)
        · have h := zif_t c29 h
          refine s_pick (l' := [(0, aR 51), (1, aI p1), (2, aI v2), (3, aI r25)]) [1, 2, 3, 0] rfl ?_
          exact TJ_X12_findPlan_140 hz hN hF (fun _ _ => ih) rp1 rv2 rr25 hW26 h
        · have h := zif_f c29 h
          refine s_iload_n 0 hz dX12_findPlan_132 rfl ?_
          refine s_aload_n 1 hz dX12_findPlan_133 rfl ?_
          refine s_getI (kz := 60) 60 hz fl_X12_428 sf51 rfl rfl dX12_findPlan_134 ?_
          refine s_icmp_ge 184 hz rr25 (hW26 51 _ sf51 60) dX12_findPlan_137 rfl (fun c41 => ?_) (fun c41 => ?_)
          · have h := zif_t c41 h
            refine s_pick (l' := [(0, aR 51), (1, aI p1), (2, aI v2)]) [1, 2, 3] rfl ?_
            exact TJ_X12_findPlan_184 hz hN hF (fun _ _ => ih) rp1 rv2 hW26 h
          · have h := zif_f c41 h
            refine s_pick (l' := [(0, aR 51), (1, aI p1), (2, aI v2), (3, aI r25)]) [1, 2, 3, 0] rfl ?_
            exact TJ_X12_findPlan_140 hz hN hF (fun _ _ => ih) rp1 rv2 rr25 hW26 h
def J_X12_findPlan_81 (S : HS) : zO2 :=
  L_X12_findPlan_85 (fun e1 S22 =>
      zs (up S22 51 60 (-1)) fun S23 =>
      L_X12_findPlan_110 e1 zBig 0 S23) zBig 1 0 S
set_option maxHeartbeats 4000000 in
set_option maxRecDepth 20000 in
theorem TJ_X12_findPlan_81 {S : HS} {r : Int} {S' : HS} {z : Zt} (hz : zO z cX12_findPlan RX12 10 shF) (hN : zN z 6) (hF : zFv z shF S') (hW : WR shF S) (h : J_X12_findPlan_81 S = some (r, S')) : zA z 81 [(0, aR 51)] [] S := by
  unfold J_X12_findPlan_81 at h
  refine s_iconst hz dX12_findPlan_81 ?_
  refine s_istore_n (l' := [(1, aI 1), (0, aR 51)]) hz hN dX12_findPlan_82 (by decide) rfl ?_
  refine s_iconst hz dX12_findPlan_83 ?_
  refine s_istore_n (l' := [(2, aI 0), (1, aI 1), (0, aR 51)]) hz hN dX12_findPlan_84 (by decide) rfl ?_
  refine s_pick (l' := [(0, aR 51), (1, aI 1), (2, aI 0)]) [2, 1, 0] rfl ?_
  refine TL_X12_findPlan_85 hz hN hF ?_ zBig rl_1 rl_0 hW h
  · clear h 
    intro e1 S22 re1 hW22 h
    refine s_aload_n 0 hz dX12_findPlan_103 rfl ?_
    refine s_iconst hz dX12_findPlan_104 ?_
    obtain ⟨S23, eS23, h⟩ := zs_ex h
    have hW23 : WR shF S23 := by rw [eS23]; exact hW22.up (i := 60) sf51 (v := (-1)) rl_m1
    refine s_putI (kz := 60) 60 hz fp_X12_428 sf51 rfl rfl dX12_findPlan_105 ?_
    rw [← eS23]
    refine s_iconst hz dX12_findPlan_108 ?_
    refine s_istore_n (l' := [(2, aI 0), (0, aR 51), (1, aI e1)]) hz hN dX12_findPlan_109 (by decide) rfl ?_
    refine s_pick (l' := [(0, aR 51), (1, aI e1), (2, aI 0)]) [1, 2, 0] rfl ?_
    exact TL_X12_findPlan_110 hz hN hF re1 zBig rl_0 hW23 h
def M_X12_findPlan (S : HS) : zO2 :=
  zs (up S 51 56 0) fun S1 =>
  L_X12_findPlan_7 (fun S18 =>
      J_X12_findPlan_81 S18) zBig 0 S1
set_option maxHeartbeats 4000000 in
set_option maxRecDepth 20000 in
theorem T_X12_findPlan {S S' : HS} {r : Int} (hW : WR shF S) (h : M_X12_findPlan S = some (r, S')) : zV shF yX12_findPlan cX12_findPlan 6 10 [aR 51] S S' := by
  refine zV_of (by decide +kernel) (Nat.le_of_ble_eq_true rfl) (fun z hz hN hF => ?_)
  have hz : zO z cX12_findPlan RX12 10 shF := hz
  show zA z 0 [(0, aR 51)] [] S
  unfold M_X12_findPlan at h
  refine s_aload_n 0 hz dX12_findPlan_0 rfl ?_
  refine s_iconst hz dX12_findPlan_1 ?_
  obtain ⟨S1, eS1, h⟩ := zs_ex h
  have hW1 : WR shF S1 := by rw [eS1]; exact hW.up (i := 56) sf51 (v := 0) rl_0
  refine s_putI (kz := 56) 56 hz fp_X12_422 sf51 rfl rfl dX12_findPlan_2 ?_
  rw [← eS1]
  refine s_iconst hz dX12_findPlan_5 ?_
  refine s_istore_n (l' := [(1, aI 0), (0, aR 51)]) hz hN dX12_findPlan_6 (by decide) rfl ?_
  refine s_pick (l' := [(0, aR 51), (1, aI 0)]) [1, 0] rfl ?_
  refine TL_X12_findPlan_7 hz hN hF ?_ zBig rl_0 hW1 h
  · clear h 
    intro S18 hW18 h
    exact TJ_X12_findPlan_81 hz hN hF hW18 h
def M_X12_plan (a1 : Int) (S : HS) : zO2 :=
  zs (up S 51 0 0) fun S1 =>
  zb (M_X12_findPlan S1) fun _ S3 =>
  if a1 = 0 then (
    some (S3 51 60, S3))
  else (
    if a1 = 1 then (
      if S3 51 60 = 0 then (
        some (0, S3))
      else (
        zl ((S3 51 60) - 1) fun x8 =>
        zg ((0 : Int) ≤ x8 ∧ (0 : Int) < 60) <|
        zl ((S3 51 60) + ((x8 / 60) * 10)) fun x10 =>
        some (x10, S3)))
    else (
      if a1 = 2 then (
        some (S3 51 56, S3))
      else (
        some ((-1), S3))))
set_option maxHeartbeats 4000000 in
set_option maxRecDepth 20000 in
theorem T_X12_plan {a1 : Int} {S S' : HS} {r : Int} (ra1 : rng a1) (hW : WR shF S) (h : M_X12_plan a1 S = some (r, S')) : zR shF yX12_plan cX12_plan 2  .int 11 [aR 51, aI a1] S r S' := by
  refine zR_of (by decide +kernel) (Nat.le_of_ble_eq_true rfl) (fun z hz hN hF => ?_)
  have hz : zO z cX12_plan RX12 11 shF := hz
  show zA z 0 [(0, aR 51), (1, aI a1)] [] S
  unfold M_X12_plan at h
  refine s_aload_n 0 hz dX12_plan_0 rfl ?_
  refine s_iconst hz dX12_plan_1 ?_
  obtain ⟨S1, eS1, h⟩ := zs_ex h
  have hW1 : WR shF S1 := by rw [eS1]; exact hW.up (i := 0) sf51 (v := 0) rl_0
  refine s_putI (kz := 0) 0 hz fp_X12_1 sf51 rfl rfl dX12_plan_2 ?_
  rw [← eS1]
  refine s_aload_n 0 hz dX12_plan_5 rfl ?_
  obtain ⟨r2, S3, hc3, h⟩ := zb_of h
  refine s_callVv [] [] hz ml_X12_434 sv_yX12_findPlan (T_X12_findPlan hW1 hc3) (by decide) rfl sf51 rfl rfl (Nat.le_of_ble_eq_true rfl) dX12_plan_6 (fun hW3 => ?_)
  refine s_iload_n 1 hz dX12_plan_9 rfl ?_
  refine s_if_ne 20 hz ra1 dX12_plan_10 rfl (fun c4 => ?_) (fun c4 => ?_)
  · have h := zif_f c4 h
    refine s_iload_n 1 hz dX12_plan_20 rfl ?_
    refine s_iconst hz dX12_plan_21 ?_
    refine s_icmp_ne 56 hz ra1 rl_1 dX12_plan_22 rfl (fun c5 => ?_) (fun c5 => ?_)
    · have h := zif_f c5 h
      refine s_iload_n 1 hz dX12_plan_56 rfl ?_
      refine s_iconst hz dX12_plan_57 ?_
      refine s_icmp_ne 68 hz ra1 rl_2 dX12_plan_58 rfl (fun c6 => ?_) (fun c6 => ?_)
      · have h := zif_f c6 h
        refine s_iconst hz dX12_plan_68 ?_
        exact s_iret h hz hF rl_m1 hW3 dX12_plan_69
      · have h := zif_t c6 h
        refine s_aload_n 0 hz dX12_plan_61 rfl ?_
        refine s_getI (kz := 56) 56 hz fl_X12_422 sf51 rfl rfl dX12_plan_62 ?_
        refine s_goto 69 hz dX12_plan_65 rfl ?_
        exact s_iret h hz hF (hW3 51 _ sf51 56) hW3 dX12_plan_69
    · have h := zif_t c5 h
      refine s_aload_n 0 hz dX12_plan_25 rfl ?_
      refine s_getI (kz := 60) 60 hz fl_X12_428 sf51 rfl rfl dX12_plan_26 ?_
      refine s_if_ne 36 hz (hW3 51 _ sf51 60) dX12_plan_29 rfl (fun c7 => ?_) (fun c7 => ?_)
      · have h := zif_f c7 h
        refine s_aload_n 0 hz dX12_plan_36 rfl ?_
        refine s_getI (kz := 60) 60 hz fl_X12_428 sf51 rfl rfl dX12_plan_37 ?_
        refine s_aload_n 0 hz dX12_plan_40 rfl ?_
        refine s_getI (kz := 60) 60 hz fl_X12_428 sf51 rfl rfl dX12_plan_41 ?_
        refine s_iconst hz dX12_plan_44 ?_
        refine s_isub hz dX12_plan_45 ?_
        refine s_bipush hz dX12_plan_46 bp_60 ?_
        obtain ⟨x8, ex8, rx8, h⟩ := zl_ex h
        rw [← ex8]
        obtain ⟨g9, h⟩ := zg_of h
        refine s_idiv hz g9.1 g9.2 rx8 rl_60 dX12_plan_48 ?_
        refine s_bipush hz dX12_plan_49 bp_10 ?_
        refine s_imul hz dX12_plan_51 ?_
        refine s_iadd hz dX12_plan_52 ?_
        refine s_goto 69 hz dX12_plan_53 rfl ?_
        obtain ⟨x10, ex10, rx10, h⟩ := zl_ex h
        rw [← ex10]
        exact s_iret h hz hF rx10 hW3 dX12_plan_69
      · have h := zif_t c7 h
        refine s_iconst hz dX12_plan_32 ?_
        refine s_goto 69 hz dX12_plan_33 rfl ?_
        exact s_iret h hz hF rl_0 hW3 dX12_plan_69
  · have h := zif_t c4 h
    refine s_aload_n 0 hz dX12_plan_13 rfl ?_
    refine s_getI (kz := 60) 60 hz fl_X12_428 sf51 rfl rfl dX12_plan_14 ?_
    refine s_goto 69 hz dX12_plan_17 rfl ?_
    exact s_iret h hz hF (hW3 51 _ sf51 60) hW3 dX12_plan_69
def J_X12_planned_41 (k13 : Int → Int → HS → zO2) (v1 : Int) (v3 : Int) (t0 : Int) (S : HS) : zO2 :=
  zl (v3 + 1) fun x7 =>
  k13 t0 x7 S
set_option maxHeartbeats 4000000 in
set_option maxRecDepth 20000 in
theorem TJ_X12_planned_41 {k13 : Int → Int → HS → zO2} {v1 : Int} {v3 : Int} {t0 : Int} {S : HS} {r : Int} {S' : HS} {z : Zt} (hz : zO z cX12_planned RX12 11 shF) (hN : zN z 4) (hF : zFi z shF .int r S') (hk13 : ∀ (w2 w3 : Int) (S : HS), rng w2 → rng w3 → WR shF S → k13 w2 w3 S = some (r, S') → zA z 13 [(0, aR 51), (1, aI v1), (2, aI w2), (3, aI w3)] [] S) (rv1 : rng v1) (rv3 : rng v3) (rt0 : rng t0) (hW : WR shF S) (h : J_X12_planned_41 k13 v1 v3 t0 S = some (r, S')) : zA z 41 [(0, aR 51), (1, aI v1), (3, aI v3)] [aI t0] S := by
  unfold J_X12_planned_41 at h
  refine s_istore_n (l' := [(2, aI t0), (0, aR 51), (1, aI v1), (3, aI v3)]) hz hN dX12_planned_41 (by decide) rfl ?_
  obtain ⟨x7, ex7, rx7, h⟩ := zl_ex h
  refine s_iinc (k0 := 3) (y := x7) (l' := [(3, aI x7), (2, aI t0), (0, aR 51), (1, aI v1)]) hz hN dX12_planned_42 rfl ex7.symm (by decide) rfl ?_
  refine s_goto 13 hz dX12_planned_45 rfl ?_
  refine s_pick (l' := [(0, aR 51), (1, aI v1), (2, aI t0), (3, aI x7)]) [2, 3, 1, 0] rfl ?_
  exact hk13 _ _ _ rt0 rx7 hW h
def L_X12_planned_13 (p1 : Int) : Nat → Int → Int → HS → zO2
  | 0, _, _, _ => none
  | n + 1, v2, v3, S => 
    if S 51 56 ≤ v3 then (
      some (v2, S))
    else (
      zg ((0 : Int) ≤ v3 ∧ v3 < 8) <|
      if S 90 v3 = p1 then (
        zg ((0 : Int) ≤ v3 ∧ v3 < 8) <|
        J_X12_planned_41 (L_X12_planned_13 p1 n) p1 v3 (S 92 v3) S)
      else (
        J_X12_planned_41 (L_X12_planned_13 p1 n) p1 v3 v2 S))
set_option maxHeartbeats 4000000 in
set_option maxRecDepth 20000 in
theorem TL_X12_planned_13 {p1 : Int} {r : Int} {S' : HS} {z : Zt} (hz : zO z cX12_planned RX12 11 shF) (hN : zN z 4) (hF : zFi z shF .int r S') (rp1 : rng p1) : ∀ (n : Nat) {v2 : Int} {v3 : Int} {S : HS}, rng v2 → rng v3 → WR shF S → L_X12_planned_13 p1 n v2 v3 S = some (r, S') → zA z 13 [(0, aR 51), (1, aI p1), (2, aI v2), (3, aI v3)] [] S := by
  intro n
  induction n with
  | zero =>
    intro _ _ _ _ _ _ h
    cases h
  | succ n ih =>
    intro v2 v3 S rv2 rv3 hW h
    rw [L_X12_planned_13.eq_2] at h
    refine s_iload_n 3 hz dX12_planned_13 rfl ?_
    refine s_aload_n 0 hz dX12_planned_14 rfl ?_
    refine s_getI (kz := 56) 56 hz fl_X12_422 sf51 rfl rfl dX12_planned_15 ?_
    refine s_icmp_ge 48 hz rv3 (hW 51 _ sf51 56) dX12_planned_18 rfl (fun c4 => ?_) (fun c4 => ?_)
    · have h := zif_t c4 h
      refine s_iload_n 2 hz dX12_planned_48 rfl ?_
      exact s_iret h hz hF rv2 hW dX12_planned_49
    · have h := zif_f c4 h
      refine s_aload_n 0 hz dX12_planned_21 rfl ?_
      refine s_getR 57 hz fl_X12_153 sf51 rfl (by decide) dX12_planned_22 ?_
      refine s_iload_n 3 hz dX12_planned_25 rfl ?_
      obtain ⟨g5, h⟩ := zg_of h
      refine s_iald hz sf90 rfl (by decide) g5 dX12_planned_26 ?_
      refine s_iload_n 1 hz dX12_planned_27 rfl ?_
      refine s_icmp_ne 40 hz (hW 90 _ sf90 v3) rp1 dX12_planned_28 rfl (fun c6 => ?_) (fun c6 => ?_)
      · have h := zif_f c6 h
        refine s_iload_n 2 hz dX12_planned_40 rfl ?_
        refine s_pick (l' := [(0, aR 51), (1, aI p1), (3, aI v3)]) [0, 1, 3] rfl ?_
        exact TJ_X12_planned_41 hz hN hF (fun _ _ _ => ih) rp1 rv3 rv2 hW h
      · have h := zif_t c6 h
        refine s_aload_n 0 hz dX12_planned_31 rfl ?_
        refine s_getR 59 hz fl_X12_159 sf51 rfl (by decide) dX12_planned_32 ?_
        refine s_iload_n 3 hz dX12_planned_35 rfl ?_
        obtain ⟨g8, h⟩ := zg_of h
        refine s_iald hz sf92 rfl (by decide) g8 dX12_planned_36 ?_
        refine s_goto 41 hz dX12_planned_37 rfl ?_
        refine s_pick (l' := [(0, aR 51), (1, aI p1), (3, aI v3)]) [0, 1, 3] rfl ?_
        exact TJ_X12_planned_41 hz hN hF (fun _ _ _ => ih) rp1 rv3 (hW 92 _ sf92 v3) hW h
def M_X12_planned (a1 : Int) (S : HS) : zO2 :=
  zs (up S 51 0 0) fun S1 =>
  zb (M_X12_findPlan S1) fun _ S3 =>
  L_X12_planned_13 a1 zBig (-1) 0 S3
set_option maxHeartbeats 4000000 in
set_option maxRecDepth 20000 in
theorem T_X12_planned {a1 : Int} {S S' : HS} {r : Int} (ra1 : rng a1) (hW : WR shF S) (h : M_X12_planned a1 S = some (r, S')) : zR shF yX12_planned cX12_planned 4  .int 11 [aR 51, aI a1] S r S' := by
  refine zR_of (by decide +kernel) (Nat.le_of_ble_eq_true rfl) (fun z hz hN hF => ?_)
  have hz : zO z cX12_planned RX12 11 shF := hz
  show zA z 0 [(0, aR 51), (1, aI a1)] [] S
  unfold M_X12_planned at h
  refine s_aload_n 0 hz dX12_planned_0 rfl ?_
  refine s_iconst hz dX12_planned_1 ?_
  obtain ⟨S1, eS1, h⟩ := zs_ex h
  have hW1 : WR shF S1 := by rw [eS1]; exact hW.up (i := 0) sf51 (v := 0) rl_0
  refine s_putI (kz := 0) 0 hz fp_X12_1 sf51 rfl rfl dX12_planned_2 ?_
  rw [← eS1]
  refine s_aload_n 0 hz dX12_planned_5 rfl ?_
  obtain ⟨r2, S3, hc3, h⟩ := zb_of h
  refine s_callVv [] [] hz ml_X12_434 sv_yX12_findPlan (T_X12_findPlan hW1 hc3) (by decide) rfl sf51 rfl rfl (Nat.le_of_ble_eq_true rfl) dX12_planned_6 (fun hW3 => ?_)
  refine s_iconst hz dX12_planned_9 ?_
  refine s_istore_n (l' := [(2, aI (-1)), (0, aR 51), (1, aI a1)]) hz hN dX12_planned_10 (by decide) rfl ?_
  refine s_iconst hz dX12_planned_11 ?_
  refine s_istore_n (l' := [(3, aI 0), (2, aI (-1)), (0, aR 51), (1, aI a1)]) hz hN dX12_planned_12 (by decide) rfl ?_
  refine s_pick (l' := [(0, aR 51), (1, aI a1), (2, aI (-1)), (3, aI 0)]) [2, 3, 1, 0] rfl ?_
  exact TL_X12_planned_13 hz hN hF ra1 zBig rl_m1 rl_0 hW3 h
def L_X12_done_7 (k31 : HS → zO2) : Nat → Int → HS → zO2
  | 0, _, _ => none
  | n + 1, v1, S => 
    if S 51 27 ≤ v1 then (
      k31 S)
    else (
      zg ((0 : Int) ≤ v1 ∧ v1 < 24) <|
      zs (up S 71 v1 (S 51 38)) fun S4 =>
      zl (v1 + 1) fun x5 =>
      L_X12_done_7 k31 n x5 S4)
set_option maxHeartbeats 4000000 in
set_option maxRecDepth 20000 in
theorem TL_X12_done_7 {k31 : HS → zO2} {r : Int} {S' : HS} {z : Zt} (hz : zO z cX12_done RX12 1 shF) (hN : zN z 2) (hF : zFi z shF .int r S') (hk31 : ∀ (S : HS), WR shF S → k31 S = some (r, S') → zA z 31 [(0, aR 51)] [] S) : ∀ (n : Nat) {v1 : Int} {S : HS}, rng v1 → WR shF S → L_X12_done_7 k31 n v1 S = some (r, S') → zA z 7 [(0, aR 51), (1, aI v1)] [] S := by
  intro n
  induction n with
  | zero =>
    intro _ _ _ _ h
    cases h
  | succ n ih =>
    intro v1 S rv1 hW h
    rw [L_X12_done_7.eq_2] at h
    refine s_iload_n 1 hz dX12_done_7 rfl ?_
    refine s_aload_n 0 hz dX12_done_8 rfl ?_
    refine s_getI (kz := 27) 27 hz fl_X12_256 sf51 rfl rfl dX12_done_9 ?_
    refine s_icmp_ge 31 hz rv1 (hW 51 _ sf51 27) dX12_done_12 rfl (fun c2 => ?_) (fun c2 => ?_)
    · have h := zif_t c2 h
      refine s_pick (l' := [(0, aR 51)]) [0] rfl ?_
      exact hk31 _ hW h
    · have h := zif_f c2 h
      refine s_aload_n 0 hz dX12_done_15 rfl ?_
      refine s_getR 32 hz fl_X12_96 sf51 rfl (by decide) dX12_done_16 ?_
      refine s_iload_n 1 hz dX12_done_19 rfl ?_
      refine s_aload_n 0 hz dX12_done_20 rfl ?_
      refine s_getI (kz := 38) 38 hz fl_X12_327 sf51 rfl rfl dX12_done_21 ?_
      obtain ⟨g3, h⟩ := zg_of h
      obtain ⟨S4, eS4, h⟩ := zs_ex h
      have hW4 : WR shF S4 := by rw [eS4]; exact hW.up (i := v1) sf71 (v := (S 51 38)) (hW 51 _ sf51 38)
      refine s_iast hz sf71 rfl (by decide) g3 dX12_done_24 ?_
      rw [← eS4]
      obtain ⟨x5, ex5, rx5, h⟩ := zl_ex h
      refine s_iinc (k0 := 1) (y := x5) (l' := [(1, aI x5), (0, aR 51)]) hz hN dX12_done_25 rfl ex5.symm (by decide) rfl ?_
      refine s_goto 7 hz dX12_done_28 rfl ?_
      refine s_pick (l' := [(0, aR 51), (1, aI x5)]) [1, 0] rfl ?_
      exact ih rx5 hW4 h
def M_X12_done (S : HS) : zO2 :=
  zs (up S 51 0 0) fun S1 =>
  L_X12_done_7 (fun S6 =>
      some (S6 51 27, S6)) zBig 0 S1
set_option maxHeartbeats 4000000 in
set_option maxRecDepth 20000 in
theorem T_X12_done {S S' : HS} {r : Int} (hW : WR shF S) (h : M_X12_done S = some (r, S')) : zR shF yX12_done cX12_done 2  .int 1 [aR 51] S r S' := by
  refine zR_of (by decide +kernel) (Nat.le_of_ble_eq_true rfl) (fun z hz hN hF => ?_)
  have hz : zO z cX12_done RX12 1 shF := hz
  show zA z 0 [(0, aR 51)] [] S
  unfold M_X12_done at h
  refine s_aload_n 0 hz dX12_done_0 rfl ?_
  refine s_iconst hz dX12_done_1 ?_
  obtain ⟨S1, eS1, h⟩ := zs_ex h
  have hW1 : WR shF S1 := by rw [eS1]; exact hW.up (i := 0) sf51 (v := 0) rl_0
  refine s_putI (kz := 0) 0 hz fp_X12_1 sf51 rfl rfl dX12_done_2 ?_
  rw [← eS1]
  refine s_iconst hz dX12_done_5 ?_
  refine s_istore_n (l' := [(1, aI 0), (0, aR 51)]) hz hN dX12_done_6 (by decide) rfl ?_
  refine s_pick (l' := [(0, aR 51), (1, aI 0)]) [1, 0] rfl ?_
  refine TL_X12_done_7 hz hN hF ?_ zBig rl_0 hW1 h
  · clear h 
    intro S6 hW6 h
    refine s_aload_n 0 hz dX12_done_31 rfl ?_
    refine s_getI (kz := 27) 27 hz fl_X12_256 sf51 rfl rfl dX12_done_32 ?_
    exact s_iret h hz hF (hW6 51 _ sf51 27) hW6 dX12_done_35
def M_X12_weeks (a1 : Int) (S : HS) : zO2 :=
  zs (up S 51 0 0) fun S1 =>
  if a1 < 0 then (
    some ((-1), S1))
  else (
    if 20 < a1 then (
      some ((-1), S1))
    else (
      zl ((S1 51 38) + a1) fun x4 =>
      if x4 ≤ 99 then (
        zl ((S1 51 38) + a1) fun x6 =>
        zs (up S1 51 38 x6) fun S7 =>
        zl ((S7 51 37) + (3 * a1)) fun x8 =>
        zb (M_X12_least 2000 x8 S7) fun r9 S10 =>
        zs (up S10 51 37 r9) fun S11 =>
        some (S11 51 38, S11))
      else (
        some ((-1), S1))))
set_option maxHeartbeats 4000000 in
set_option maxRecDepth 20000 in
theorem T_X12_weeks {a1 : Int} {S S' : HS} {r : Int} (ra1 : rng a1) (hW : WR shF S) (h : M_X12_weeks a1 S = some (r, S')) : zR shF yX12_weeks cX12_weeks 2  .int 2 [aR 51, aI a1] S r S' := by
  refine zR_of (by decide +kernel) (Nat.le_of_ble_eq_true rfl) (fun z hz hN hF => ?_)
  have hz : zO z cX12_weeks RX12 2 shF := hz
  show zA z 0 [(0, aR 51), (1, aI a1)] [] S
  unfold M_X12_weeks at h
  refine s_aload_n 0 hz dX12_weeks_0 rfl ?_
  refine s_iconst hz dX12_weeks_1 ?_
  obtain ⟨S1, eS1, h⟩ := zs_ex h
  have hW1 : WR shF S1 := by rw [eS1]; exact hW.up (i := 0) sf51 (v := 0) rl_0
  refine s_putI (kz := 0) 0 hz fp_X12_1 sf51 rfl rfl dX12_weeks_2 ?_
  rw [← eS1]
  refine s_iload_n 1 hz dX12_weeks_5 rfl ?_
  refine s_if_lt 26 hz ra1 dX12_weeks_6 rfl (fun c2 => ?_) (fun c2 => ?_)
  · have h := zif_t c2 h
    refine s_iconst hz dX12_weeks_26 ?_
    exact s_iret h hz hF rl_m1 hW1 dX12_weeks_27
  · have h := zif_f c2 h
    refine s_iload_n 1 hz dX12_weeks_9 rfl ?_
    refine s_bipush hz dX12_weeks_10 bp_20 ?_
    refine s_icmp_gt 26 hz ra1 rl_20 dX12_weeks_12 rfl (fun c3 => ?_) (fun c3 => ?_)
    · have h := zif_t c3 h
      refine s_iconst hz dX12_weeks_26 ?_
      exact s_iret h hz hF rl_m1 hW1 dX12_weeks_27
    · have h := zif_f c3 h
      refine s_aload_n 0 hz dX12_weeks_15 rfl ?_
      refine s_getI (kz := 38) 38 hz fl_X12_327 sf51 rfl rfl dX12_weeks_16 ?_
      refine s_iload_n 1 hz dX12_weeks_19 rfl ?_
      refine s_iadd hz dX12_weeks_20 ?_
      refine s_bipush hz dX12_weeks_21 bp_99 ?_
      obtain ⟨x4, ex4, rx4, h⟩ := zl_ex h
      rw [← ex4]
      refine s_icmp_le 28 hz rx4 rl_99 dX12_weeks_23 rfl (fun c5 => ?_) (fun c5 => ?_)
      · have h := zif_t c5 h
        refine s_aload_n 0 hz dX12_weeks_28 rfl ?_
        refine s_dup hz rfl dX12_weeks_29 ?_
        refine s_getI (kz := 38) 38 hz fl_X12_327 sf51 rfl rfl dX12_weeks_30 ?_
        refine s_iload_n 1 hz dX12_weeks_33 rfl ?_
        refine s_iadd hz dX12_weeks_34 ?_
        obtain ⟨x6, ex6, rx6, h⟩ := zl_ex h
        rw [← ex6]
        obtain ⟨S7, eS7, h⟩ := zs_ex h
        have hW7 : WR shF S7 := by rw [eS7]; exact hW1.up (i := 38) sf51 (v := x6) rx6
        refine s_putI (kz := 38) 38 hz fp_X12_327 sf51 rfl rfl dX12_weeks_35 ?_
        rw [← eS7]
        refine s_aload_n 0 hz dX12_weeks_38 rfl ?_
        refine s_sipush hz dX12_weeks_39 sp_2000 ?_
        refine s_aload_n 0 hz dX12_weeks_42 rfl ?_
        refine s_getI (kz := 37) 37 hz fl_X12_165 sf51 rfl rfl dX12_weeks_43 ?_
        refine s_iconst hz dX12_weeks_46 ?_
        refine s_iload_n 1 hz dX12_weeks_47 rfl ?_
        refine s_imul hz dX12_weeks_48 ?_
        refine s_iadd hz dX12_weeks_49 ?_
        obtain ⟨x8, ex8, rx8, h⟩ := zl_ex h
        rw [← ex8]
        obtain ⟨r9, S10, hc10, h⟩ := zb_of h
        refine s_callS [aI 2000, aI x8] [aR 51] hz ml_X12_289 ss_yX12_least (T_X12_least rl_2000 rx8 hW7 hc10) (by decide) rfl rfl (Nat.le_of_ble_eq_true rfl) dX12_weeks_50 (fun rr9 hW10 => ?_)
        obtain ⟨S11, eS11, h⟩ := zs_ex h
        have hW11 : WR shF S11 := by rw [eS11]; exact hW10.up (i := 37) sf51 (v := r9) rr9
        refine s_putI (kz := 37) 37 hz fp_X12_165 sf51 rfl rfl dX12_weeks_53 ?_
        rw [← eS11]
        refine s_aload_n 0 hz dX12_weeks_56 rfl ?_
        refine s_getI (kz := 38) 38 hz fl_X12_327 sf51 rfl rfl dX12_weeks_57 ?_
        exact s_iret h hz hF (hW11 51 _ sf51 38) hW11 dX12_weeks_60
      · have h := zif_f c5 h
        refine s_iconst hz dX12_weeks_26 ?_
        exact s_iret h hz hF rl_m1 hW1 dX12_weeks_27
def M_X12_holds (a1 : Int) (S : HS) : zO2 :=
  zs (up S 51 0 0) fun S1 =>
  zb (M_X12_isRow a1 S1) fun r2 S3 =>
  if r2 = 0 then (
    some ((-1), S3))
  else (
    zb (M_X12_holdsFor a1 S3) fun r5 S6 =>
    some (r5, S6))
set_option maxHeartbeats 4000000 in
set_option maxRecDepth 20000 in
theorem T_X12_holds {a1 : Int} {S S' : HS} {r : Int} (ra1 : rng a1) (hW : WR shF S) (h : M_X12_holds a1 S = some (r, S')) : zR shF yX12_holds cX12_holds 2  .int 9 [aR 51, aI a1] S r S' := by
  refine zR_of (by decide +kernel) (Nat.le_of_ble_eq_true rfl) (fun z hz hN hF => ?_)
  have hz : zO z cX12_holds RX12 9 shF := hz
  show zA z 0 [(0, aR 51), (1, aI a1)] [] S
  unfold M_X12_holds at h
  refine s_aload_n 0 hz dX12_holds_0 rfl ?_
  refine s_iconst hz dX12_holds_1 ?_
  obtain ⟨S1, eS1, h⟩ := zs_ex h
  have hW1 : WR shF S1 := by rw [eS1]; exact hW.up (i := 0) sf51 (v := 0) rl_0
  refine s_putI (kz := 0) 0 hz fp_X12_1 sf51 rfl rfl dX12_holds_2 ?_
  rw [← eS1]
  refine s_aload_n 0 hz dX12_holds_5 rfl ?_
  refine s_iload_n 1 hz dX12_holds_6 rfl ?_
  obtain ⟨r2, S3, hc3, h⟩ := zb_of h
  refine s_callV [aI a1] [] hz ml_X12_389 sv_yX12_isRow (T_X12_isRow ra1 hW1 hc3) (by decide) rfl sf51 rfl rfl (Nat.le_of_ble_eq_true rfl) dX12_holds_7 (fun rr2 hW3 => ?_)
  refine s_if_eq 21 hz rr2 dX12_holds_10 rfl (fun c4 => ?_) (fun c4 => ?_)
  · have h := zif_t c4 h
    refine s_iconst hz dX12_holds_21 ?_
    exact s_iret h hz hF rl_m1 hW3 dX12_holds_22
  · have h := zif_f c4 h
    refine s_aload_n 0 hz dX12_holds_13 rfl ?_
    refine s_iload_n 1 hz dX12_holds_14 rfl ?_
    obtain ⟨r5, S6, hc6, h⟩ := zb_of h
    refine s_callV [aI a1] [] hz ml_X12_437 sv_yX12_holdsFor (T_X12_holdsFor ra1 hW3 hc6) (by decide) rfl sf51 rfl rfl (Nat.le_of_ble_eq_true rfl) dX12_holds_15 (fun rr5 hW6 => ?_)
    refine s_goto 22 hz dX12_holds_18 rfl ?_
    exact s_iret h hz hF rr5 hW6 dX12_holds_22
def M_X12_isOut (a1 : Int) (S : HS) : zO2 :=
  zs (up S 51 0 0) fun S1 =>
  zb (M_X12_isRow a1 S1) fun r2 S3 =>
  if r2 = 0 then (
    some ((-1), S3))
  else (
    zb (M_X12_isOutNow a1 S3) fun r5 S6 =>
    if r5 = 0 then (
      some (0, S6))
    else (
      some (1, S6)))
set_option maxHeartbeats 4000000 in
set_option maxRecDepth 20000 in
theorem T_X12_isOut {a1 : Int} {S S' : HS} {r : Int} (ra1 : rng a1) (hW : WR shF S) (h : M_X12_isOut a1 S = some (r, S')) : zR shF yX12_isOut cX12_isOut 2  .int 10 [aR 51, aI a1] S r S' := by
  refine zR_of (by decide +kernel) (Nat.le_of_ble_eq_true rfl) (fun z hz hN hF => ?_)
  have hz : zO z cX12_isOut RX12 10 shF := hz
  show zA z 0 [(0, aR 51), (1, aI a1)] [] S
  unfold M_X12_isOut at h
  refine s_aload_n 0 hz dX12_isOut_0 rfl ?_
  refine s_iconst hz dX12_isOut_1 ?_
  obtain ⟨S1, eS1, h⟩ := zs_ex h
  have hW1 : WR shF S1 := by rw [eS1]; exact hW.up (i := 0) sf51 (v := 0) rl_0
  refine s_putI (kz := 0) 0 hz fp_X12_1 sf51 rfl rfl dX12_isOut_2 ?_
  rw [← eS1]
  refine s_aload_n 0 hz dX12_isOut_5 rfl ?_
  refine s_iload_n 1 hz dX12_isOut_6 rfl ?_
  obtain ⟨r2, S3, hc3, h⟩ := zb_of h
  refine s_callV [aI a1] [] hz ml_X12_389 sv_yX12_isRow (T_X12_isRow ra1 hW1 hc3) (by decide) rfl sf51 rfl rfl (Nat.le_of_ble_eq_true rfl) dX12_isOut_7 (fun rr2 hW3 => ?_)
  refine s_if_ne 17 hz rr2 dX12_isOut_10 rfl (fun c4 => ?_) (fun c4 => ?_)
  · have h := zif_f c4 h
    refine s_aload_n 0 hz dX12_isOut_17 rfl ?_
    refine s_iload_n 1 hz dX12_isOut_18 rfl ?_
    obtain ⟨r5, S6, hc6, h⟩ := zb_of h
    refine s_callV [aI a1] [] hz ml_X12_425 sv_yX12_isOutNow (T_X12_isOutNow ra1 hW3 hc6) (by decide) rfl sf51 rfl rfl (Nat.le_of_ble_eq_true rfl) dX12_isOut_19 (fun rr5 hW6 => ?_)
    refine s_if_eq 29 hz rr5 dX12_isOut_22 rfl (fun c7 => ?_) (fun c7 => ?_)
    · have h := zif_t c7 h
      refine s_iconst hz dX12_isOut_29 ?_
      exact s_iret h hz hF rl_0 hW6 dX12_isOut_30
    · have h := zif_f c7 h
      refine s_iconst hz dX12_isOut_25 ?_
      refine s_goto 30 hz dX12_isOut_26 rfl ?_
      exact s_iret h hz hF rl_1 hW6 dX12_isOut_30
  · have h := zif_t c4 h
    refine s_iconst hz dX12_isOut_13 ?_
    refine s_goto 30 hz dX12_isOut_14 rfl ?_
    exact s_iret h hz hF rl_m1 hW3 dX12_isOut_30
