/-! the law: the script, the calls of its helpers, one theorem for each of its cases -/
def zScr (z : Zt) (b L : Nat) (xs : Nat → Int32) : Prop := match z with
  | (_, _, _, _, s, _, _, _, _, _, _, _, _, _, _, _, _, A) => va_X b L xs s s.heap ∧ b < s.heap.size ∧ ¬ A b
def zFl (z : Zt) : Prop := match z with
  | (_, lc, _) => lc.stackTraces = false
def zq (xs : Nat → Int32) (i : Int) (j : Nat) : Int := (xs (i + (j : Int)).toNat).toInt
theorem zMet_post {l : Launch} {y : MethodName} {ws : List Cond} {rm : Room} {Pc : Array Value → State → Prop} {Qc Qc' : Array Value → State → Outcome → State → Prop} {mc ms : Nat} {free : Addr → Prop} (h : Met l y ws rm Pc Qc mc ms free) (hq : ∀ a st o t, Qc a st o t → Qc' a st o t) : Met l y ws rm Pc Qc' mc ms free := by
  intro p e ha hf hc s m args below hfr happ hP hK
  obtain ⟨n, o, h1, h2, h3, h4, h5⟩ := h p e ha hf hc s m args below hfr happ hP hK
  exact ⟨n, o, h1, h2, h3, hq _ _ _ _ h4, h5⟩
def zHL (index : Nat) (y : MethodName) (cy : ByteArray) : Prop := Cond.methodLink RL index y ∈ Tg ∧ Cond.static y ∈ Tg ∧ Cond.initialized y.cls ∈ Tg ∧ Cond.codeWith y cy 6 (some .int) [(0, 12, 15, 13)] ∈ Tg ∧ (y.cls ≠ "java/lang/invoke/MethodHandle" ∧ y.cls ≠ "java/lang/invoke/VarHandle") ∧ (parseMethodDescriptor y.desc).map (fun d => d.parameters.length) = some 5
theorem zR_F {y : MethodName} {cy : ByteArray} {mL : Nat} {ty : FieldType} {d : Nat} {args : List AV} {h : HS} {r : Int} {h' : HS} (hR : zR shX y cy mL ty d args h r h') (hW : WR shF h') : zR shF y cy mL ty d args h r h' := by
  intro lc σ ad D cA A hσ
  have h1 := hR lc σ ad D cA A (fun k q hk => hσ k q (shX_in hk))
  refine zMet_post h1 (fun a st o t hq => ?_)
  obtain ⟨⟨r1, u, e1, ⟨e2, e3, -⟩, e4⟩, e5⟩ := hq
  exact ⟨⟨r1, u, e1, ⟨e2, e3, hW⟩, e4⟩, e5⟩
theorem zHk_r {r : Int} : rng (zHk r) := by
  unfold zHk
  split
  · exact ⟨by decide, by decide⟩
  · exact z_rng0
theorem zHk_0 {r : Int} (h : zHk r = 0) : r ≠ zT := by
  intro e
  rw [zHk, if_pos e] at h
  exact absurd h (by decide)
theorem zcmp_ne {x y : Int} (h : ¬ zcmp x y = 0) : x ≠ y := by
  intro e
  apply h
  unfold zcmp
  rw [if_neg (by omega), if_pos e]
theorem sfx0 : shF[0]? = some (.inr (11, [some 1, some 3, some 7, some 17, some 23, some 28, some 33, some 40, some 42, some 45])) := shX_in sx0
section ZLAW
variable {z : Zt} {cc : ByteArray} {own : String} {d : Nat} {σ0 σ : List SC} {pc kc ks : Nat} {l l' : List (Nat × AV)} {st : List AV} {h : HS} {ad : Nat → Nat} {L : Nat} {xs : Nat → Int32} {i : Int}
theorem s_sld {i : Int} (hz : zO (zU z σ ad kc ks) cc own d σ0) (hs : zScr z (ad 999) L xs) (hi : 0 ≤ i ∧ i < (L : Int)) (hLb : L < 2147483648) (hd : decode cc pc = .ok (.iaload, 1)) (k : zA (zU z σ ad kc ks) (pc + 1) l (aI (xs i.toNat).toInt :: st) h) : zA (zU z σ ad kc ks) pc l (aI i :: aR 999 :: st) h := by
  obtain ⟨p, lc, e, R, s, m, args, below, meth, c, cells, slots, Q, σ1, ad1, D, cA, A⟩ := z
  obtain ⟨hx, hb, hown, hts, hK, hσ, -⟩ := hz
  obtain ⟨hX, hbl, hbA⟩ := hs
  obtain ⟨hr, hin⟩ := z_in hi.1 hi.2 hLb
  intro H locs ls hv hP hD hS
  refine va_sld hx hb hX hbl hbA hS hin hd ?_
  have kk := k H locs ls hv hP hD hS
  rw [z_cl hr, ← z_as (xs i.toNat)]
  exact kk
theorem s_slen9 (hz : zO (zU z σ ad kc ks) cc own d σ0) (hs : zScr z (ad 999) L xs) (hd : decode cc pc = .ok (.arraylength, 1)) (k : zA (zU z σ ad kc ks) (pc + 1) l (aI (L : Int) :: st) h) : zA (zU z σ ad kc ks) pc l (aR 999 :: st) h := by
  obtain ⟨p, lc, e, R, s, m, args, below, meth, c, cells, slots, Q, σ1, ad1, D, cA, A⟩ := z
  obtain ⟨hx, hb, hown, hts, hK, hσ, -⟩ := hz
  obtain ⟨hX, hbl, hbA⟩ := hs
  intro H locs ls hv hP hD hS
  exact va_slen hx hb hX hbl hbA hS hd (k H locs ls hv hP hD hS)
/-- the law's call of a helper of its own: it may make an exception -/
theorem s_help {y : MethodName} {cy : ByteArray} {index : Nat} {k0 : Int} {h' : HS} (As rest : List AV) (hz : zO (zU z shF ad kc ks) cc RL d shF) (hA : zAl z) (hCe : zCe z (kc + 1) (ks + 6)) (hL : zHL index y cy) (hI : ∀ (lc : Launch) (hfl : lc.stackTraces = false) (σ : List SC) (ad : Nat → Nat) (D : va_G) (cA : FieldType → ClassId) (A : Nat → Prop) (hσ : ∀ (k : Nat) (q : SC), shF[k]? = some q → σ[k]? = some q), Met lc y (Cond.codeWith y cy 6 (some .int) [(0, 12, 15, 13)] :: Tg) (zIRm 10 1 6) (zIPc σ ad D cA A As h) (va_Qi (fun (v : Int32) (_ : Unit) => v = Int32.ofInt k0) (fun _ t => va_P D vwCl (conc σ ad cA h') t.heap) A) 1 6 A) (hfl : zFl z) (hdd : 11 ≤ d) (hn : As.length = 5) (hst : st = As.reverse ++ rest) (hrest : (rest.map avc).sum ≤ 8) (hd : decode cc pc = .ok (.invokestatic index, 3)) (k : zO (zU z shF ad (kc + 1) (ks + 6)) cc RL d shF → zA (zU z shF ad (kc + 1) (ks + 6)) (pc + 3) l (aI k0 :: rest) h') : zA (zU z shF ad kc ks) pc l st h := by
  have hz0 := hz
  obtain ⟨p, lc, e, R, s, m, args, below, meth, c, cells, slots, Q, σ1, ad1, D, cA, A⟩ := z
  obtain ⟨hx, hb, hown, hts, hK, hσ, hX, hfr, hlo, hce, hsl⟩ := hz
  obtain ⟨hlk, hstt, hini, hcode, hy, hd5⟩ := hL
  subst hst
  intro H locs ls hv hP hD hS
  have hpre : FrameBlind (zIPc shF ad D cA A As h) ∧ ∀ U : State, U.heap = H → s.WarmedH U.vm → zIPc shF ad D cA A As h ((As.map (cv ad)).toArray) U := by
    refine ⟨fun a U g mk q => ?_, fun U hU hW => ⟨rfl, by rw [hU]; exact hP, va_K.moved hW.alike hK, hD, hX.kept hS.2.1 hU hW, fun q hq => hA q (Nat.le_trans hS.1 (by rw [← hU]; exact hq))⟩⟩
    obtain ⟨q0, qP, qK, qD, qX, qA⟩ := q
    exact ⟨q0, qP, va_K.moved (u := U) (U := U.calling g mk a) (Vm.Alike.refl U.vm) qK, qD, qX.same rfl rfl, qA⟩
  have hG : GoodIn Tg (Cond.codeWith y cy 6 (some .int) [(0, 12, 15, 13)] :: Tg) := zGood (fun w hw => by
    rcases List.mem_cons.mp hw with rfl | hw
    · exact hcode
    · exact hw)
  have hstk : ((As.reverse ++ rest).map (cv ad)) = (As.map (cv ad)).reverse ++ rest.map (cv ad) := by
    rw [List.map_append, List.map_reverse]
  have hW8 : 2 * (F0 m pc ls ((As.reverse ++ rest).map (cv ad))).monitorRoom + ((rest.map (cv ad)).map fun v => v.category).sum ≤ 8 := lv_room (by rw [zcat]; exact hrest)
  refine va_calli (vx_runSW (n := 5) (As := As.map (cv ad)) (rest := rest.map (cv ad)) (Ts := Tg) ⟨hx, hb, rfl, hown, hts⟩ (hI lc hfl shF ad D cA A (fun _ _ h => h)) ⟨⟨rfl, rfl, by show 10 + 1 ≤ _; omega, by show 8 + (6 + 11) + 60 * 10 ≤ _; omega, pay_in hts hG, List.mem_cons_self⟩, hts _ hcode, hts _ hini, hy, fun sig h => ?_, hts _ hlk, hts _ hstt⟩ hpre rfl (by rw [List.length_map]; exact hn) hv.1 hstk hW8 hd ⟨hCe.1, hCe.2⟩) hS (fun q _ h => h) (fun q h => h) (fun r' u t H1 locs1 ht hvm hw hB hz1 hk1 hS1 => ?_)
  · rw [h] at hd5
    exact (Option.some.inj hd5).symm
  · subst hw
    have hB : va_P D vwCl (conc shF ad cA h') t.heap := hB
    rw [ht] at hB
    exact k (zO_U (n := 0) hz0 (fun _ _ h => h) (fun _ _ => rfl) hCe) H1 locs1 ls hv hB (conc_D hD) hS1

theorem hL_65 : zHL 65 yL_strand cL_strand := ⟨zTg (i := 1231) (by decide +kernel) (by decide +kernel), zTg (i := 1232) (by decide +kernel) (by decide +kernel), zTg (i := 112) (by decide +kernel) (by decide +kernel), zTg (i := 1233) (by decide +kernel) (by decide +kernel), ⟨by decide +kernel, by decide +kernel⟩, by decide +kernel⟩
theorem hL_96 : zHL 96 yL_look cL_look := ⟨zTg (i := 1304) (by decide +kernel) (by decide +kernel), zTg (i := 1305) (by decide +kernel) (by decide +kernel), zTg (i := 112) (by decide +kernel) (by decide +kernel), zTg (i := 1306) (by decide +kernel) (by decide +kernel), ⟨by decide +kernel, by decide +kernel⟩, by decide +kernel⟩
theorem zcl32 : Cond.constantLong RL 32 (Int64.ofInt 4294967295) ∈ Tg := zTg (i := 1894) (by decide +kernel) (by decide +kernel)
set_option maxHeartbeats 4000000 in
theorem LC_0 (hz : zO (zU z shF ad kc ks) cL_law RL 60 shF) (hN : zN z 7) (hA : zAl z) (hCe : ∀ a b : Nat, a ≤ kc + 1 → b ≤ ks + 6 → zCe z a b) (hs : zScr z (ad 999) L xs) (hLb : L < 2147483648) (h0 : 0 ≤ i) (h7 : i + 7 ≤ L) {S S1 S2 : HS} {r : Int} (hW : WR shF S) (h1 : M_X11_cell (zq xs i 1) (zq xs i 2) (zq xs i 3) S = some (r, S1)) (hW1 : WR shF S1) (h2 : M_X12_cell (zq xs i 1) (zq xs i 2) (zq xs i 3) S1 = some (r, S2)) (K : WR shF S2 → zA (zU z shF ad kc ks) 1174 [(0, aR 999), (1, aR 0), (2, aR 51), (3, aR 94), (4, aI i)] [] S2) : zA (zU z shF ad kc ks) 160 [(0, aR 999), (1, aR 0), (2, aR 51), (3, aR 94), (4, aI i)] [] S := by
  have ri : rng i := by unfold rng; omega
  refine s_aload_n 1 hz dL_law_160 rfl ?_
  refine s_aload_n 0 hz dL_law_161 rfl ?_
  refine s_iload 4 hz dL_law_162 rfl ?_
  refine s_iconst hz dL_law_164 ?_
  refine s_iadd hz dL_law_165 ?_
  refine s_sld hz hs (i := i + 1) (by omega) hLb dL_law_166 ?_
  change zA _ _ _ (aI (zq xs i 1) :: _) _
  refine s_aload_n 0 hz dL_law_167 rfl ?_
  refine s_iload 4 hz dL_law_168 rfl ?_
  refine s_iconst hz dL_law_170 ?_
  refine s_iadd hz dL_law_171 ?_
  refine s_sld hz hs (i := i + 2) (by omega) hLb dL_law_172 ?_
  change zA _ _ _ (aI (zq xs i 2) :: _) _
  refine s_aload_n 0 hz dL_law_173 rfl ?_
  refine s_iload 4 hz dL_law_174 rfl ?_
  refine s_iconst hz dL_law_176 ?_
  refine s_iadd hz dL_law_177 ?_
  refine s_sld hz hs (i := i + 3) (by omega) hLb dL_law_178 ?_
  change zA _ _ _ (aI (zq xs i 3) :: _) _
  refine s_callV [aI (zq xs i 1), aI (zq xs i 2), aI (zq xs i 3)] [] hz ml_L_22 sv_yX11_cell (zR_F (T_X11_cell (z_rngI _) (z_rngI _) (z_rngI _) (WR_X hW) h1) hW1) (by decide) rfl sfx0 rfl rfl (Nat.le_of_ble_eq_true rfl) dL_law_179 (fun rr1 hW1 => ?_)
  refine s_aload_n 2 hz dL_law_182 rfl ?_
  refine s_aload_n 0 hz dL_law_183 rfl ?_
  refine s_iload 4 hz dL_law_184 rfl ?_
  refine s_iconst hz dL_law_186 ?_
  refine s_iadd hz dL_law_187 ?_
  refine s_sld hz hs (i := i + 1) (by omega) hLb dL_law_188 ?_
  change zA _ _ _ (aI (zq xs i 1) :: _) _
  refine s_aload_n 0 hz dL_law_189 rfl ?_
  refine s_iload 4 hz dL_law_190 rfl ?_
  refine s_iconst hz dL_law_192 ?_
  refine s_iadd hz dL_law_193 ?_
  refine s_sld hz hs (i := i + 2) (by omega) hLb dL_law_194 ?_
  change zA _ _ _ (aI (zq xs i 2) :: _) _
  refine s_aload_n 0 hz dL_law_195 rfl ?_
  refine s_iload 4 hz dL_law_196 rfl ?_
  refine s_iconst hz dL_law_198 ?_
  refine s_iadd hz dL_law_199 ?_
  refine s_sld hz hs (i := i + 3) (by omega) hLb dL_law_200 ?_
  change zA _ _ _ (aI (zq xs i 3) :: _) _
  refine s_callV [aI (zq xs i 1), aI (zq xs i 2), aI (zq xs i 3)] [aI r] hz ml_L_26 sv_yX12_cell (T_X12_cell (z_rngI _) (z_rngI _) (z_rngI _) hW1 h2) (by decide) rfl sf51 rfl rfl (Nat.le_of_ble_eq_true rfl) dL_law_201 (fun rr2 hW2 => ?_)
  refine s_icmp_eq 1174 hz rr1 rr2 dL_law_204 rfl (fun _ => ?_) (fun c => absurd rfl c)
  exact K hW2
set_option maxHeartbeats 4000000 in
theorem LC_1 (hz : zO (zU z shF ad kc ks) cL_law RL 60 shF) (hN : zN z 7) (hA : zAl z) (hCe : ∀ a b : Nat, a ≤ kc + 1 → b ≤ ks + 6 → zCe z a b) (hs : zScr z (ad 999) L xs) (hLb : L < 2147483648) (h0 : 0 ≤ i) (h7 : i + 7 ≤ L) {S S1 S2 : HS} {r : Int} (hW : WR shF S) (h1 : M_X11_length (zq xs i 1) S = some (r, S1)) (hW1 : WR shF S1) (h2 : M_X12_length (zq xs i 1) S1 = some (r, S2)) (K : WR shF S2 → zA (zU z shF ad kc ks) 1174 [(0, aR 999), (1, aR 0), (2, aR 51), (3, aR 94), (4, aI i)] [] S2) : zA (zU z shF ad kc ks) 209 [(0, aR 999), (1, aR 0), (2, aR 51), (3, aR 94), (4, aI i)] [] S := by
  have ri : rng i := by unfold rng; omega
  refine s_aload_n 1 hz dL_law_209 rfl ?_
  refine s_aload_n 0 hz dL_law_210 rfl ?_
  refine s_iload 4 hz dL_law_211 rfl ?_
  refine s_iconst hz dL_law_213 ?_
  refine s_iadd hz dL_law_214 ?_
  refine s_sld hz hs (i := i + 1) (by omega) hLb dL_law_215 ?_
  change zA _ _ _ (aI (zq xs i 1) :: _) _
  refine s_callV [aI (zq xs i 1)] [] hz ml_L_27 sv_yX11_length (zR_F (T_X11_length (z_rngI _) (WR_X hW) h1) hW1) (by decide) rfl sfx0 rfl rfl (Nat.le_of_ble_eq_true rfl) dL_law_216 (fun rr1 hW1 => ?_)
  refine s_aload_n 2 hz dL_law_219 rfl ?_
  refine s_aload_n 0 hz dL_law_220 rfl ?_
  refine s_iload 4 hz dL_law_221 rfl ?_
  refine s_iconst hz dL_law_223 ?_
  refine s_iadd hz dL_law_224 ?_
  refine s_sld hz hs (i := i + 1) (by omega) hLb dL_law_225 ?_
  change zA _ _ _ (aI (zq xs i 1) :: _) _
  refine s_callV [aI (zq xs i 1)] [aI r] hz ml_L_31 sv_yX12_length (T_X12_length (z_rngI _) hW1 h2) (by decide) rfl sf51 rfl rfl (Nat.le_of_ble_eq_true rfl) dL_law_226 (fun rr2 hW2 => ?_)
  refine s_icmp_eq 1174 hz rr1 rr2 dL_law_229 rfl (fun _ => ?_) (fun c => absurd rfl c)
  exact K hW2
set_option maxHeartbeats 4000000 in
theorem LC_2 (hz : zO (zU z shF ad kc ks) cL_law RL 60 shF) (hN : zN z 7) (hA : zAl z) (hCe : ∀ a b : Nat, a ≤ kc + 1 → b ≤ ks + 6 → zCe z a b) (hs : zScr z (ad 999) L xs) (hLb : L < 2147483648) (h0 : 0 ≤ i) (h7 : i + 7 ≤ L) {S S1 S2 : HS} {r : Int} (hW : WR shF S) (h1 : M_X11_feed (zlor (zlshl (zq xs i 1) 32) (zland (zq xs i 2) 4294967295)) (zlor (zlshl (zq xs i 3) 32) (zland (zq xs i 4) 4294967295)) (zlor (zlshl (zq xs i 5) 32) (zland (zq xs i 6) 4294967295)) S = some (r, S1)) (hW1 : WR shF S1) (h2 : M_X12_feed (zlor (zlshl (zq xs i 1) 32) (zland (zq xs i 2) 4294967295)) (zlor (zlshl (zq xs i 3) 32) (zland (zq xs i 4) 4294967295)) (zlor (zlshl (zq xs i 5) 32) (zland (zq xs i 6) 4294967295)) S1 = some (r, S2)) (K : WR shF S2 → zA (zU z shF ad kc ks) 1174 [(0, aR 999), (1, aR 0), (2, aR 51), (3, aR 94), (4, aI i)] [] S2) : zA (zU z shF ad kc ks) 234 [(0, aR 999), (1, aR 0), (2, aR 51), (3, aR 94), (4, aI i)] [] S := by
  have ri : rng i := by unfold rng; omega
  refine s_aload_n 1 hz dL_law_234 rfl ?_
  refine s_aload_n 0 hz dL_law_235 rfl ?_
  refine s_iload 4 hz dL_law_236 rfl ?_
  refine s_iconst hz dL_law_238 ?_
  refine s_iadd hz dL_law_239 ?_
  refine s_sld hz hs (i := i + 1) (by omega) hLb dL_law_240 ?_
  change zA _ _ _ (aI (zq xs i 1) :: _) _
  refine s_i2l hz (z_rngI _) dL_law_241 ?_
  refine s_bipush hz dL_law_242 (by decide +kernel) ?_
  refine s_lshl hz dL_law_244 ?_
  refine s_aload_n 0 hz dL_law_245 rfl ?_
  refine s_iload 4 hz dL_law_246 rfl ?_
  refine s_iconst hz dL_law_248 ?_
  refine s_iadd hz dL_law_249 ?_
  refine s_sld hz hs (i := i + 2) (by omega) hLb dL_law_250 ?_
  change zA _ _ _ (aI (zq xs i 2) :: _) _
  refine s_i2l hz (z_rngI _) dL_law_251 ?_
  refine s_ldc2 4294967295 hz zcl32 dL_law_252 ?_
  refine s_land hz dL_law_255 ?_
  refine s_lor hz dL_law_256 ?_
  refine s_aload_n 0 hz dL_law_257 rfl ?_
  refine s_iload 4 hz dL_law_258 rfl ?_
  refine s_iconst hz dL_law_260 ?_
  refine s_iadd hz dL_law_261 ?_
  refine s_sld hz hs (i := i + 3) (by omega) hLb dL_law_262 ?_
  change zA _ _ _ (aI (zq xs i 3) :: _) _
  refine s_i2l hz (z_rngI _) dL_law_263 ?_
  refine s_bipush hz dL_law_264 (by decide +kernel) ?_
  refine s_lshl hz dL_law_266 ?_
  refine s_aload_n 0 hz dL_law_267 rfl ?_
  refine s_iload 4 hz dL_law_268 rfl ?_
  refine s_iconst hz dL_law_270 ?_
  refine s_iadd hz dL_law_271 ?_
  refine s_sld hz hs (i := i + 4) (by omega) hLb dL_law_272 ?_
  change zA _ _ _ (aI (zq xs i 4) :: _) _
  refine s_i2l hz (z_rngI _) dL_law_273 ?_
  refine s_ldc2 4294967295 hz zcl32 dL_law_274 ?_
  refine s_land hz dL_law_277 ?_
  refine s_lor hz dL_law_278 ?_
  refine s_aload_n 0 hz dL_law_279 rfl ?_
  refine s_iload 4 hz dL_law_280 rfl ?_
  refine s_iconst hz dL_law_282 ?_
  refine s_iadd hz dL_law_283 ?_
  refine s_sld hz hs (i := i + 5) (by omega) hLb dL_law_284 ?_
  change zA _ _ _ (aI (zq xs i 5) :: _) _
  refine s_i2l hz (z_rngI _) dL_law_285 ?_
  refine s_bipush hz dL_law_286 (by decide +kernel) ?_
  refine s_lshl hz dL_law_288 ?_
  refine s_aload_n 0 hz dL_law_289 rfl ?_
  refine s_iload 4 hz dL_law_290 rfl ?_
  refine s_bipush hz dL_law_292 (by decide +kernel) ?_
  refine s_iadd hz dL_law_294 ?_
  refine s_sld hz hs (i := i + 6) (by omega) hLb dL_law_295 ?_
  change zA _ _ _ (aI (zq xs i 6) :: _) _
  refine s_i2l hz (z_rngI _) dL_law_296 ?_
  refine s_ldc2 4294967295 hz zcl32 dL_law_297 ?_
  refine s_land hz dL_law_300 ?_
  refine s_lor hz dL_law_301 ?_
  refine s_callV [aL (zlor (zlshl (zq xs i 1) 32) (zland (zq xs i 2) 4294967295)), aL (zlor (zlshl (zq xs i 3) 32) (zland (zq xs i 4) 4294967295)), aL (zlor (zlshl (zq xs i 5) 32) (zland (zq xs i 6) 4294967295))] [] hz ml_L_34 sv_yX11_feed (zR_F (T_X11_feed zlor_r zlor_r zlor_r (WR_X hW) h1) hW1) (by decide) rfl sfx0 rfl rfl (Nat.le_of_ble_eq_true rfl) dL_law_302 (fun rr1 hW1 => ?_)
  refine s_aload_n 2 hz dL_law_305 rfl ?_
  refine s_aload_n 0 hz dL_law_306 rfl ?_
  refine s_iload 4 hz dL_law_307 rfl ?_
  refine s_iconst hz dL_law_309 ?_
  refine s_iadd hz dL_law_310 ?_
  refine s_sld hz hs (i := i + 1) (by omega) hLb dL_law_311 ?_
  change zA _ _ _ (aI (zq xs i 1) :: _) _
  refine s_i2l hz (z_rngI _) dL_law_312 ?_
  refine s_bipush hz dL_law_313 (by decide +kernel) ?_
  refine s_lshl hz dL_law_315 ?_
  refine s_aload_n 0 hz dL_law_316 rfl ?_
  refine s_iload 4 hz dL_law_317 rfl ?_
  refine s_iconst hz dL_law_319 ?_
  refine s_iadd hz dL_law_320 ?_
  refine s_sld hz hs (i := i + 2) (by omega) hLb dL_law_321 ?_
  change zA _ _ _ (aI (zq xs i 2) :: _) _
  refine s_i2l hz (z_rngI _) dL_law_322 ?_
  refine s_ldc2 4294967295 hz zcl32 dL_law_323 ?_
  refine s_land hz dL_law_326 ?_
  refine s_lor hz dL_law_327 ?_
  refine s_aload_n 0 hz dL_law_328 rfl ?_
  refine s_iload 4 hz dL_law_329 rfl ?_
  refine s_iconst hz dL_law_331 ?_
  refine s_iadd hz dL_law_332 ?_
  refine s_sld hz hs (i := i + 3) (by omega) hLb dL_law_333 ?_
  change zA _ _ _ (aI (zq xs i 3) :: _) _
  refine s_i2l hz (z_rngI _) dL_law_334 ?_
  refine s_bipush hz dL_law_335 (by decide +kernel) ?_
  refine s_lshl hz dL_law_337 ?_
  refine s_aload_n 0 hz dL_law_338 rfl ?_
  refine s_iload 4 hz dL_law_339 rfl ?_
  refine s_iconst hz dL_law_341 ?_
  refine s_iadd hz dL_law_342 ?_
  refine s_sld hz hs (i := i + 4) (by omega) hLb dL_law_343 ?_
  change zA _ _ _ (aI (zq xs i 4) :: _) _
  refine s_i2l hz (z_rngI _) dL_law_344 ?_
  refine s_ldc2 4294967295 hz zcl32 dL_law_345 ?_
  refine s_land hz dL_law_348 ?_
  refine s_lor hz dL_law_349 ?_
  refine s_aload_n 0 hz dL_law_350 rfl ?_
  refine s_iload 4 hz dL_law_351 rfl ?_
  refine s_iconst hz dL_law_353 ?_
  refine s_iadd hz dL_law_354 ?_
  refine s_sld hz hs (i := i + 5) (by omega) hLb dL_law_355 ?_
  change zA _ _ _ (aI (zq xs i 5) :: _) _
  refine s_i2l hz (z_rngI _) dL_law_356 ?_
  refine s_bipush hz dL_law_357 (by decide +kernel) ?_
  refine s_lshl hz dL_law_359 ?_
  refine s_aload_n 0 hz dL_law_360 rfl ?_
  refine s_iload 4 hz dL_law_361 rfl ?_
  refine s_bipush hz dL_law_363 (by decide +kernel) ?_
  refine s_iadd hz dL_law_365 ?_
  refine s_sld hz hs (i := i + 6) (by omega) hLb dL_law_366 ?_
  change zA _ _ _ (aI (zq xs i 6) :: _) _
  refine s_i2l hz (z_rngI _) dL_law_367 ?_
  refine s_ldc2 4294967295 hz zcl32 dL_law_368 ?_
  refine s_land hz dL_law_371 ?_
  refine s_lor hz dL_law_372 ?_
  refine s_callV [aL (zlor (zlshl (zq xs i 1) 32) (zland (zq xs i 2) 4294967295)), aL (zlor (zlshl (zq xs i 3) 32) (zland (zq xs i 4) 4294967295)), aL (zlor (zlshl (zq xs i 5) 32) (zland (zq xs i 6) 4294967295))] [aI r] hz ml_L_38 sv_yX12_feed (T_X12_feed zlor_r zlor_r zlor_r hW1 h2) (by decide) rfl sf51 rfl rfl (Nat.le_of_ble_eq_true rfl) dL_law_373 (fun rr2 hW2 => ?_)
  refine s_icmp_eq 1174 hz rr1 rr2 dL_law_376 rfl (fun _ => ?_) (fun c => absurd rfl c)
  exact K hW2
set_option maxHeartbeats 4000000 in
theorem LC_3 (hz : zO (zU z shF ad kc ks) cL_law RL 60 shF) (hN : zN z 7) (hA : zAl z) (hCe : ∀ a b : Nat, a ≤ kc + 1 → b ≤ ks + 6 → zCe z a b) (hs : zScr z (ad 999) L xs) (hLb : L < 2147483648) (h0 : 0 ≤ i) (h7 : i + 7 ≤ L) {S S1 S2 : HS} {r : Int} (hW : WR shF S) (h1 : M_X11_draw S = some (r, S1)) (hW1 : WR shF S1) (h2 : M_X12_draw S1 = some (r, S2)) (K : WR shF S2 → zA (zU z shF ad kc ks) 1174 [(0, aR 999), (1, aR 0), (2, aR 51), (3, aR 94), (4, aI i)] [] S2) : zA (zU z shF ad kc ks) 381 [(0, aR 999), (1, aR 0), (2, aR 51), (3, aR 94), (4, aI i)] [] S := by
  have ri : rng i := by unfold rng; omega
  refine s_aload_n 1 hz dL_law_381 rfl ?_
  refine s_callV [] [] hz ml_L_39 sv_yX11_draw (zR_F (T_X11_draw (WR_X hW) h1) hW1) (by decide) rfl sfx0 rfl rfl (Nat.le_of_ble_eq_true rfl) dL_law_382 (fun rr1 hW1 => ?_)
  refine s_aload_n 2 hz dL_law_385 rfl ?_
  refine s_callV [] [aI r] hz ml_L_43 sv_yX12_draw (T_X12_draw hW1 h2) (by decide) rfl sf51 rfl rfl (Nat.le_of_ble_eq_true rfl) dL_law_386 (fun rr2 hW2 => ?_)
  refine s_icmp_eq 1174 hz rr1 rr2 dL_law_389 rfl (fun _ => ?_) (fun c => absurd rfl c)
  exact K hW2
set_option maxHeartbeats 4000000 in
theorem LC_4 (hz : zO (zU z shF ad kc ks) cL_law RL 60 shF) (hN : zN z 7) (hA : zAl z) (hCe : ∀ a b : Nat, a ≤ kc + 1 → b ≤ ks + 6 → zCe z a b) (hs : zScr z (ad 999) L xs) (hLb : L < 2147483648) (h0 : 0 ≤ i) (h7 : i + 7 ≤ L) {S S1 S2 : HS} {r : Int} (hW : WR shF S) (h1 : M_X11_takeBack S = some (r, S1)) (hW1 : WR shF S1) (h2 : M_X12_takeBack S1 = some (r, S2)) (K : WR shF S2 → zA (zU z shF ad kc ks) 1174 [(0, aR 999), (1, aR 0), (2, aR 51), (3, aR 94), (4, aI i)] [] S2) : zA (zU z shF ad kc ks) 394 [(0, aR 999), (1, aR 0), (2, aR 51), (3, aR 94), (4, aI i)] [] S := by
  have ri : rng i := by unfold rng; omega
  refine s_aload_n 1 hz dL_law_394 rfl ?_
  refine s_callV [] [] hz ml_L_44 sv_yX11_takeBack (zR_F (T_X11_takeBack (WR_X hW) h1) hW1) (by decide) rfl sfx0 rfl rfl (Nat.le_of_ble_eq_true rfl) dL_law_395 (fun rr1 hW1 => ?_)
  refine s_aload_n 2 hz dL_law_398 rfl ?_
  refine s_callV [] [aI r] hz ml_L_47 sv_yX12_takeBack (T_X12_takeBack hW1 h2) (by decide) rfl sf51 rfl rfl (Nat.le_of_ble_eq_true rfl) dL_law_399 (fun rr2 hW2 => ?_)
  refine s_icmp_eq 1174 hz rr1 rr2 dL_law_402 rfl (fun _ => ?_) (fun c => absurd rfl c)
  exact K hW2
set_option maxHeartbeats 4000000 in
theorem LC_5 (hz : zO (zU z shF ad kc ks) cL_law RL 60 shF) (hN : zN z 7) (hA : zAl z) (hCe : ∀ a b : Nat, a ≤ kc + 1 → b ≤ ks + 6 → zCe z a b) (hs : zScr z (ad 999) L xs) (hLb : L < 2147483648) (h0 : 0 ≤ i) (h7 : i + 7 ≤ L) {S S1 S2 : HS} {r : Int} (hW : WR shF S) (h1 : M_X11_region (zq xs i 1) (zq xs i 2) S = some (r, S1)) (hW1 : WR shF S1) (h2 : M_X12_region (zq xs i 1) (zq xs i 2) S1 = some (r, S2)) (K : WR shF S2 → zA (zU z shF ad kc ks) 1174 [(0, aR 999), (1, aR 0), (2, aR 51), (3, aR 94), (4, aI i)] [] S2) : zA (zU z shF ad kc ks) 407 [(0, aR 999), (1, aR 0), (2, aR 51), (3, aR 94), (4, aI i)] [] S := by
  have ri : rng i := by unfold rng; omega
  refine s_aload_n 1 hz dL_law_407 rfl ?_
  refine s_aload_n 0 hz dL_law_408 rfl ?_
  refine s_iload 4 hz dL_law_409 rfl ?_
  refine s_iconst hz dL_law_411 ?_
  refine s_iadd hz dL_law_412 ?_
  refine s_sld hz hs (i := i + 1) (by omega) hLb dL_law_413 ?_
  change zA _ _ _ (aI (zq xs i 1) :: _) _
  refine s_aload_n 0 hz dL_law_414 rfl ?_
  refine s_iload 4 hz dL_law_415 rfl ?_
  refine s_iconst hz dL_law_417 ?_
  refine s_iadd hz dL_law_418 ?_
  refine s_sld hz hs (i := i + 2) (by omega) hLb dL_law_419 ?_
  change zA _ _ _ (aI (zq xs i 2) :: _) _
  refine s_callV [aI (zq xs i 1), aI (zq xs i 2)] [] hz ml_L_48 sv_yX11_region (zR_F (T_X11_region (z_rngI _) (z_rngI _) (WR_X hW) h1) hW1) (by decide) rfl sfx0 rfl rfl (Nat.le_of_ble_eq_true rfl) dL_law_420 (fun rr1 hW1 => ?_)
  refine s_aload_n 2 hz dL_law_423 rfl ?_
  refine s_aload_n 0 hz dL_law_424 rfl ?_
  refine s_iload 4 hz dL_law_425 rfl ?_
  refine s_iconst hz dL_law_427 ?_
  refine s_iadd hz dL_law_428 ?_
  refine s_sld hz hs (i := i + 1) (by omega) hLb dL_law_429 ?_
  change zA _ _ _ (aI (zq xs i 1) :: _) _
  refine s_aload_n 0 hz dL_law_430 rfl ?_
  refine s_iload 4 hz dL_law_431 rfl ?_
  refine s_iconst hz dL_law_433 ?_
  refine s_iadd hz dL_law_434 ?_
  refine s_sld hz hs (i := i + 2) (by omega) hLb dL_law_435 ?_
  change zA _ _ _ (aI (zq xs i 2) :: _) _
  refine s_callV [aI (zq xs i 1), aI (zq xs i 2)] [aI r] hz ml_L_52 sv_yX12_region (T_X12_region (z_rngI _) (z_rngI _) hW1 h2) (by decide) rfl sf51 rfl rfl (Nat.le_of_ble_eq_true rfl) dL_law_436 (fun rr2 hW2 => ?_)
  refine s_icmp_eq 1174 hz rr1 rr2 dL_law_439 rfl (fun _ => ?_) (fun c => absurd rfl c)
  exact K hW2
set_option maxHeartbeats 4000000 in
theorem LC_6 (hz : zO (zU z shF ad kc ks) cL_law RL 60 shF) (hN : zN z 7) (hA : zAl z) (hCe : ∀ a b : Nat, a ≤ kc + 1 → b ≤ ks + 6 → zCe z a b) (hs : zScr z (ad 999) L xs) (hLb : L < 2147483648) (h0 : 0 ≤ i) (h7 : i + 7 ≤ L) {S S1 S2 : HS} {r : Int} (hW : WR shF S) (h1 : M_X11_taken (zq xs i 1) (zq xs i 2) S = some (r, S1)) (hW1 : WR shF S1) (h2 : M_X12_taken (zq xs i 1) (zq xs i 2) S1 = some (r, S2)) (K : WR shF S2 → zA (zU z shF ad kc ks) 1174 [(0, aR 999), (1, aR 0), (2, aR 51), (3, aR 94), (4, aI i)] [] S2) : zA (zU z shF ad kc ks) 444 [(0, aR 999), (1, aR 0), (2, aR 51), (3, aR 94), (4, aI i)] [] S := by
  have ri : rng i := by unfold rng; omega
  refine s_aload_n 1 hz dL_law_444 rfl ?_
  refine s_aload_n 0 hz dL_law_445 rfl ?_
  refine s_iload 4 hz dL_law_446 rfl ?_
  refine s_iconst hz dL_law_448 ?_
  refine s_iadd hz dL_law_449 ?_
  refine s_sld hz hs (i := i + 1) (by omega) hLb dL_law_450 ?_
  change zA _ _ _ (aI (zq xs i 1) :: _) _
  refine s_aload_n 0 hz dL_law_451 rfl ?_
  refine s_iload 4 hz dL_law_452 rfl ?_
  refine s_iconst hz dL_law_454 ?_
  refine s_iadd hz dL_law_455 ?_
  refine s_sld hz hs (i := i + 2) (by omega) hLb dL_law_456 ?_
  change zA _ _ _ (aI (zq xs i 2) :: _) _
  refine s_callV [aI (zq xs i 1), aI (zq xs i 2)] [] hz ml_L_53 sv_yX11_taken (zR_F (T_X11_taken (z_rngI _) (z_rngI _) (WR_X hW) h1) hW1) (by decide) rfl sfx0 rfl rfl (Nat.le_of_ble_eq_true rfl) dL_law_457 (fun rr1 hW1 => ?_)
  refine s_aload_n 2 hz dL_law_460 rfl ?_
  refine s_aload_n 0 hz dL_law_461 rfl ?_
  refine s_iload 4 hz dL_law_462 rfl ?_
  refine s_iconst hz dL_law_464 ?_
  refine s_iadd hz dL_law_465 ?_
  refine s_sld hz hs (i := i + 1) (by omega) hLb dL_law_466 ?_
  change zA _ _ _ (aI (zq xs i 1) :: _) _
  refine s_aload_n 0 hz dL_law_467 rfl ?_
  refine s_iload 4 hz dL_law_468 rfl ?_
  refine s_iconst hz dL_law_470 ?_
  refine s_iadd hz dL_law_471 ?_
  refine s_sld hz hs (i := i + 2) (by omega) hLb dL_law_472 ?_
  change zA _ _ _ (aI (zq xs i 2) :: _) _
  refine s_callV [aI (zq xs i 1), aI (zq xs i 2)] [aI r] hz ml_L_56 sv_yX12_taken (T_X12_taken (z_rngI _) (z_rngI _) hW1 h2) (by decide) rfl sf51 rfl rfl (Nat.le_of_ble_eq_true rfl) dL_law_473 (fun rr2 hW2 => ?_)
  refine s_icmp_eq 1174 hz rr1 rr2 dL_law_476 rfl (fun _ => ?_) (fun c => absurd rfl c)
  exact K hW2
set_option maxHeartbeats 4000000 in
theorem LC_7 (hz : zO (zU z shF ad kc ks) cL_law RL 60 shF) (hN : zN z 7) (hA : zAl z) (hCe : ∀ a b : Nat, a ≤ kc + 1 → b ≤ ks + 6 → zCe z a b) (hs : zScr z (ad 999) L xs) (hLb : L < 2147483648) (h0 : 0 ≤ i) (h7 : i + 7 ≤ L) {S S1 S2 : HS} {r : Int} (hW : WR shF S) (h1 : M_X11_side (zq xs i 1) (zq xs i 2) (zq xs i 3) S = some (r, S1)) (hW1 : WR shF S1) (h2 : M_X12_side (zq xs i 1) (zq xs i 2) (zq xs i 3) S1 = some (r, S2)) (K : WR shF S2 → zA (zU z shF ad kc ks) 1174 [(0, aR 999), (1, aR 0), (2, aR 51), (3, aR 94), (4, aI i)] [] S2) : zA (zU z shF ad kc ks) 481 [(0, aR 999), (1, aR 0), (2, aR 51), (3, aR 94), (4, aI i)] [] S := by
  have ri : rng i := by unfold rng; omega
  refine s_aload_n 1 hz dL_law_481 rfl ?_
  refine s_aload_n 0 hz dL_law_482 rfl ?_
  refine s_iload 4 hz dL_law_483 rfl ?_
  refine s_iconst hz dL_law_485 ?_
  refine s_iadd hz dL_law_486 ?_
  refine s_sld hz hs (i := i + 1) (by omega) hLb dL_law_487 ?_
  change zA _ _ _ (aI (zq xs i 1) :: _) _
  refine s_aload_n 0 hz dL_law_488 rfl ?_
  refine s_iload 4 hz dL_law_489 rfl ?_
  refine s_iconst hz dL_law_491 ?_
  refine s_iadd hz dL_law_492 ?_
  refine s_sld hz hs (i := i + 2) (by omega) hLb dL_law_493 ?_
  change zA _ _ _ (aI (zq xs i 2) :: _) _
  refine s_aload_n 0 hz dL_law_494 rfl ?_
  refine s_iload 4 hz dL_law_495 rfl ?_
  refine s_iconst hz dL_law_497 ?_
  refine s_iadd hz dL_law_498 ?_
  refine s_sld hz hs (i := i + 3) (by omega) hLb dL_law_499 ?_
  change zA _ _ _ (aI (zq xs i 3) :: _) _
  refine s_callV [aI (zq xs i 1), aI (zq xs i 2), aI (zq xs i 3)] [] hz ml_L_57 sv_yX11_side (zR_F (T_X11_side (z_rngI _) (z_rngI _) (z_rngI _) (WR_X hW) h1) hW1) (by decide) rfl sfx0 rfl rfl (Nat.le_of_ble_eq_true rfl) dL_law_500 (fun rr1 hW1 => ?_)
  refine s_aload_n 2 hz dL_law_503 rfl ?_
  refine s_aload_n 0 hz dL_law_504 rfl ?_
  refine s_iload 4 hz dL_law_505 rfl ?_
  refine s_iconst hz dL_law_507 ?_
  refine s_iadd hz dL_law_508 ?_
  refine s_sld hz hs (i := i + 1) (by omega) hLb dL_law_509 ?_
  change zA _ _ _ (aI (zq xs i 1) :: _) _
  refine s_aload_n 0 hz dL_law_510 rfl ?_
  refine s_iload 4 hz dL_law_511 rfl ?_
  refine s_iconst hz dL_law_513 ?_
  refine s_iadd hz dL_law_514 ?_
  refine s_sld hz hs (i := i + 2) (by omega) hLb dL_law_515 ?_
  change zA _ _ _ (aI (zq xs i 2) :: _) _
  refine s_aload_n 0 hz dL_law_516 rfl ?_
  refine s_iload 4 hz dL_law_517 rfl ?_
  refine s_iconst hz dL_law_519 ?_
  refine s_iadd hz dL_law_520 ?_
  refine s_sld hz hs (i := i + 3) (by omega) hLb dL_law_521 ?_
  change zA _ _ _ (aI (zq xs i 3) :: _) _
  refine s_callV [aI (zq xs i 1), aI (zq xs i 2), aI (zq xs i 3)] [aI r] hz ml_L_60 sv_yX12_side (T_X12_side (z_rngI _) (z_rngI _) (z_rngI _) hW1 h2) (by decide) rfl sf51 rfl rfl (Nat.le_of_ble_eq_true rfl) dL_law_522 (fun rr2 hW2 => ?_)
  refine s_icmp_eq 1174 hz rr1 rr2 dL_law_525 rfl (fun _ => ?_) (fun c => absurd rfl c)
  exact K hW2
set_option maxHeartbeats 4000000 in
theorem LC_8 (hz : zO (zU z shF ad kc ks) cL_law RL 60 shF) (hN : zN z 7) (hA : zAl z) (hCe : ∀ a b : Nat, a ≤ kc + 1 → b ≤ ks + 6 → zCe z a b) (hs : zScr z (ad 999) L xs) (hLb : L < 2147483648) (h0 : 0 ≤ i) (h7 : i + 7 ≤ L) {S S1 S2 : HS} {r : Int} (hW : WR shF S) (h1 : M_X11_row (zq xs i 1) (zq xs i 2) S = some (r, S1)) (hW1 : WR shF S1) (h2 : M_X12_row (zq xs i 1) (zq xs i 2) S1 = some (r, S2)) (K : WR shF S2 → zA (zU z shF ad kc ks) 1174 [(0, aR 999), (1, aR 0), (2, aR 51), (3, aR 94), (4, aI i)] [] S2) : zA (zU z shF ad kc ks) 530 [(0, aR 999), (1, aR 0), (2, aR 51), (3, aR 94), (4, aI i)] [] S := by
  have ri : rng i := by unfold rng; omega
  refine s_aload_n 1 hz dL_law_530 rfl ?_
  refine s_aload_n 0 hz dL_law_531 rfl ?_
  refine s_iload 4 hz dL_law_532 rfl ?_
  refine s_iconst hz dL_law_534 ?_
  refine s_iadd hz dL_law_535 ?_
  refine s_sld hz hs (i := i + 1) (by omega) hLb dL_law_536 ?_
  change zA _ _ _ (aI (zq xs i 1) :: _) _
  refine s_aload_n 0 hz dL_law_537 rfl ?_
  refine s_iload 4 hz dL_law_538 rfl ?_
  refine s_iconst hz dL_law_540 ?_
  refine s_iadd hz dL_law_541 ?_
  refine s_sld hz hs (i := i + 2) (by omega) hLb dL_law_542 ?_
  change zA _ _ _ (aI (zq xs i 2) :: _) _
  refine s_callV [aI (zq xs i 1), aI (zq xs i 2)] [] hz ml_L_61 sv_yX11_row (zR_F (T_X11_row (z_rngI _) (z_rngI _) (WR_X hW) h1) hW1) (by decide) rfl sfx0 rfl rfl (Nat.le_of_ble_eq_true rfl) dL_law_543 (fun rr1 hW1 => ?_)
  refine s_aload_n 2 hz dL_law_546 rfl ?_
  refine s_aload_n 0 hz dL_law_547 rfl ?_
  refine s_iload 4 hz dL_law_548 rfl ?_
  refine s_iconst hz dL_law_550 ?_
  refine s_iadd hz dL_law_551 ?_
  refine s_sld hz hs (i := i + 1) (by omega) hLb dL_law_552 ?_
  change zA _ _ _ (aI (zq xs i 1) :: _) _
  refine s_aload_n 0 hz dL_law_553 rfl ?_
  refine s_iload 4 hz dL_law_554 rfl ?_
  refine s_iconst hz dL_law_556 ?_
  refine s_iadd hz dL_law_557 ?_
  refine s_sld hz hs (i := i + 2) (by omega) hLb dL_law_558 ?_
  change zA _ _ _ (aI (zq xs i 2) :: _) _
  refine s_callV [aI (zq xs i 1), aI (zq xs i 2)] [aI r] hz ml_L_64 sv_yX12_row (T_X12_row (z_rngI _) (z_rngI _) hW1 h2) (by decide) rfl sf51 rfl rfl (Nat.le_of_ble_eq_true rfl) dL_law_559 (fun rr2 hW2 => ?_)
  refine s_icmp_eq 1174 hz rr1 rr2 dL_law_562 rfl (fun _ => ?_) (fun c => absurd rfl c)
  exact K hW2
set_option maxHeartbeats 4000000 in
theorem LC_9 (hz : zO (zU z shF ad kc ks) cL_law RL 60 shF) (hN : zN z 7) (hA : zAl z) (hCe : ∀ a b : Nat, a ≤ kc + 1 → b ≤ ks + 6 → zCe z a b) (hfl : zFl z) (hs : zScr z (ad 999) L xs) (hLb : L < 2147483648) (h0 : 0 ≤ i) (h7 : i + 7 ≤ L) {S S0 S2 S3 : HS} {r b : Int} (hW : WR shF S) (h1 : M_X11_strand kTT (zq xs i 1) (zq xs i 2) (zq xs i 3) S = some (r, S0)) (hW1 : WR shF (zHS r S0)) (h2 : M_X12_strand (zq xs i 1) (zq xs i 2) (zq xs i 3) (zHS r S0) = some (b, S2)) (h3 : M_X12_thrown S2 = some ((zHk r), S3)) (hout : r ≠ zT → S3 94 0 = b) (K : WR shF S3 → zA (zU z shF ad (kc + 1) (ks + 6)) 1174 [(0, aR 999), (1, aR 0), (2, aR 51), (3, aR 94), (4, aI i)] [] S3) : zA (zU z shF ad kc ks) 567 [(0, aR 999), (1, aR 0), (2, aR 51), (3, aR 94), (4, aI i)] [] S := by
  have ri : rng i := by unfold rng; omega
  refine s_aload_n 1 hz dL_law_567 rfl ?_
  refine s_aload_n 0 hz dL_law_568 rfl ?_
  refine s_iload 4 hz dL_law_569 rfl ?_
  refine s_iconst hz dL_law_571 ?_
  refine s_iadd hz dL_law_572 ?_
  refine s_sld hz hs (i := i + 1) (by omega) hLb dL_law_573 ?_
  change zA _ _ _ (aI (zq xs i 1) :: _) _
  refine s_aload_n 0 hz dL_law_574 rfl ?_
  refine s_iload 4 hz dL_law_575 rfl ?_
  refine s_iconst hz dL_law_577 ?_
  refine s_iadd hz dL_law_578 ?_
  refine s_sld hz hs (i := i + 2) (by omega) hLb dL_law_579 ?_
  change zA _ _ _ (aI (zq xs i 2) :: _) _
  refine s_aload_n 0 hz dL_law_580 rfl ?_
  refine s_iload 4 hz dL_law_581 rfl ?_
  refine s_iconst hz dL_law_583 ?_
  refine s_iadd hz dL_law_584 ?_
  refine s_sld hz hs (i := i + 3) (by omega) hLb dL_law_585 ?_
  change zA _ _ _ (aI (zq xs i 3) :: _) _
  refine s_aload_n 3 hz dL_law_586 rfl ?_
  refine s_help [aR 0, aI (zq xs i 1), aI (zq xs i 2), aI (zq xs i 3), aR 94] [] hz hA (hCe _ _ (by omega) (by omega)) hL_65 (TH_strand (z_rngI _) (z_rngI _) (z_rngI _) (WR_X hW) h1) hfl (by decide) rfl rfl (Nat.le_of_ble_eq_true rfl) dL_law_587 (fun hz => ?_)
  refine s_istore (l' := [(5, aI (zHk r)), (0, aR 999), (1, aR 0), (2, aR 51), (3, aR 94), (4, aI i)]) hz (zN_U hN) dL_law_590 (by decide) rfl ?_
  refine s_aload_n 3 hz dL_law_592 rfl ?_
  refine s_aload_n 1 hz dL_law_593 rfl ?_
  refine s_iload 5 hz dL_law_594 rfl ?_
  refine s_iconst hz dL_law_596 ?_
  refine s_iadd hz dL_law_597 ?_
  refine s_sld hz hs (i := i + 1) (by omega) hLb dL_law_598 ?_
  change zA _ _ _ (aI (zq xs i 1) :: _) _
  refine s_aload_n 1 hz dL_law_599 rfl ?_
  refine s_iload 5 hz dL_law_600 rfl ?_
  refine s_iconst hz dL_law_602 ?_
  refine s_iadd hz dL_law_603 ?_
  refine s_sld hz hs (i := i + 2) (by omega) hLb dL_law_604 ?_
  change zA _ _ _ (aI (zq xs i 2) :: _) _
  refine s_aload_n 1 hz dL_law_605 rfl ?_
  refine s_iload 5 hz dL_law_606 rfl ?_
  refine s_iconst hz dL_law_608 ?_
  refine s_iadd hz dL_law_609 ?_
  refine s_sld hz hs (i := i + 3) (by omega) hLb dL_law_610 ?_
  change zA _ _ _ (aI (zq xs i 3) :: _) _
  refine s_callV [aI (zq xs i 1), aI (zq xs i 2), aI (zq xs i 3)] [] hz ml_L_70 sv_yX12_strand (T_X12_strand (z_rngI _) (z_rngI _) (z_rngI _) hW1 h2) (by decide) rfl sf51 rfl rfl (Nat.le_of_ble_eq_true rfl) dL_law_611 (fun rr2 hW2 => ?_)
  refine s_istore (l' := [(6, aI b), (5, aI (zHk r)), (0, aR 999), (1, aR 0), (2, aR 51), (3, aR 94), (4, aI i)]) hz (zN_U hN) dL_law_614 (by decide) rfl ?_
  refine s_aload_n 4 hz dL_law_616 rfl ?_
  refine s_callV [] [] hz ml_L_71 sv_yX12_thrown (T_X12_thrown hW2 h3) (by decide) rfl sf51 rfl rfl (Nat.le_of_ble_eq_true rfl) dL_law_617 (fun rr3 hW3 => ?_)
  refine s_iload 1 hz dL_law_620 rfl ?_
  refine s_icmp_eq 627 hz rr3 rr3 dL_law_622 rfl (fun _ => ?_) (fun c => absurd rfl c)
  refine s_iload 1 hz dL_law_627 rfl ?_
  refine s_if_ne 644 hz zHk_r dL_law_629 rfl (fun c => ?_) (fun c => ?_)
  · refine s_goto 1174 hz dL_law_644 rfl ?_
    refine s_pick (l' := [(0, aR 999), (1, aR 0), (2, aR 51), (3, aR 94), (4, aI i)]) [2, 3, 4, 5, 6] rfl ?_
    exact K hW3
  have hne : r ≠ zT := zHk_0 c
  refine s_aload_n 5 hz dL_law_632 rfl ?_
  refine s_iconst hz dL_law_633 ?_
  refine s_lald hz sf94 rfl (by decide) (by decide) dL_law_634 ?_
  refine s_iload 0 hz dL_law_635 rfl ?_
  refine s_i2l hz rr2 dL_law_637 ?_
  refine s_lcmp hz (hW3 94 _ sf94 0) (z_ri rr2) dL_law_638 ?_
  refine s_if_eq 644 hz zcmp_r dL_law_639 rfl (fun _ => ?_) (fun c => absurd (hout hne) (zcmp_ne c))
  refine s_goto 1174 hz dL_law_644 rfl ?_
  refine s_pick (l' := [(0, aR 999), (1, aR 0), (2, aR 51), (3, aR 94), (4, aI i)]) [2, 3, 4, 5, 6] rfl ?_
  exact K hW3
set_option maxHeartbeats 4000000 in
theorem LC_10 (hz : zO (zU z shF ad kc ks) cL_law RL 60 shF) (hN : zN z 7) (hA : zAl z) (hCe : ∀ a b : Nat, a ≤ kc + 1 → b ≤ ks + 6 → zCe z a b) (hs : zScr z (ad 999) L xs) (hLb : L < 2147483648) (h0 : 0 ≤ i) (h7 : i + 7 ≤ L) {S S1 S2 : HS} {r : Int} (hW : WR shF S) (h1 : M_X11_added (zq xs i 1) (zq xs i 2) (zq xs i 3) (zq xs i 4) S = some (r, S1)) (hW1 : WR shF S1) (h2 : M_X12_added (zq xs i 1) (zq xs i 2) (zq xs i 3) (zq xs i 4) S1 = some (r, S2)) (K : WR shF S2 → zA (zU z shF ad kc ks) 1174 [(0, aR 999), (1, aR 0), (2, aR 51), (3, aR 94), (4, aI i)] [] S2) : zA (zU z shF ad kc ks) 647 [(0, aR 999), (1, aR 0), (2, aR 51), (3, aR 94), (4, aI i)] [] S := by
  have ri : rng i := by unfold rng; omega
  refine s_aload_n 1 hz dL_law_647 rfl ?_
  refine s_aload_n 0 hz dL_law_648 rfl ?_
  refine s_iload 4 hz dL_law_649 rfl ?_
  refine s_iconst hz dL_law_651 ?_
  refine s_iadd hz dL_law_652 ?_
  refine s_sld hz hs (i := i + 1) (by omega) hLb dL_law_653 ?_
  change zA _ _ _ (aI (zq xs i 1) :: _) _
  refine s_aload_n 0 hz dL_law_654 rfl ?_
  refine s_iload 4 hz dL_law_655 rfl ?_
  refine s_iconst hz dL_law_657 ?_
  refine s_iadd hz dL_law_658 ?_
  refine s_sld hz hs (i := i + 2) (by omega) hLb dL_law_659 ?_
  change zA _ _ _ (aI (zq xs i 2) :: _) _
  refine s_aload_n 0 hz dL_law_660 rfl ?_
  refine s_iload 4 hz dL_law_661 rfl ?_
  refine s_iconst hz dL_law_663 ?_
  refine s_iadd hz dL_law_664 ?_
  refine s_sld hz hs (i := i + 3) (by omega) hLb dL_law_665 ?_
  change zA _ _ _ (aI (zq xs i 3) :: _) _
  refine s_aload_n 0 hz dL_law_666 rfl ?_
  refine s_iload 4 hz dL_law_667 rfl ?_
  refine s_iconst hz dL_law_669 ?_
  refine s_iadd hz dL_law_670 ?_
  refine s_sld hz hs (i := i + 4) (by omega) hLb dL_law_671 ?_
  change zA _ _ _ (aI (zq xs i 4) :: _) _
  refine s_callV [aI (zq xs i 1), aI (zq xs i 2), aI (zq xs i 3), aI (zq xs i 4)] [] hz ml_L_74 sv_yX11_added (zR_F (T_X11_added (z_rngI _) (z_rngI _) (z_rngI _) (z_rngI _) (WR_X hW) h1) hW1) (by decide) rfl sfx0 rfl rfl (Nat.le_of_ble_eq_true rfl) dL_law_672 (fun rr1 hW1 => ?_)
  refine s_aload_n 2 hz dL_law_675 rfl ?_
  refine s_aload_n 0 hz dL_law_676 rfl ?_
  refine s_iload 4 hz dL_law_677 rfl ?_
  refine s_iconst hz dL_law_679 ?_
  refine s_iadd hz dL_law_680 ?_
  refine s_sld hz hs (i := i + 1) (by omega) hLb dL_law_681 ?_
  change zA _ _ _ (aI (zq xs i 1) :: _) _
  refine s_aload_n 0 hz dL_law_682 rfl ?_
  refine s_iload 4 hz dL_law_683 rfl ?_
  refine s_iconst hz dL_law_685 ?_
  refine s_iadd hz dL_law_686 ?_
  refine s_sld hz hs (i := i + 2) (by omega) hLb dL_law_687 ?_
  change zA _ _ _ (aI (zq xs i 2) :: _) _
  refine s_aload_n 0 hz dL_law_688 rfl ?_
  refine s_iload 4 hz dL_law_689 rfl ?_
  refine s_iconst hz dL_law_691 ?_
  refine s_iadd hz dL_law_692 ?_
  refine s_sld hz hs (i := i + 3) (by omega) hLb dL_law_693 ?_
  change zA _ _ _ (aI (zq xs i 3) :: _) _
  refine s_aload_n 0 hz dL_law_694 rfl ?_
  refine s_iload 4 hz dL_law_695 rfl ?_
  refine s_iconst hz dL_law_697 ?_
  refine s_iadd hz dL_law_698 ?_
  refine s_sld hz hs (i := i + 4) (by omega) hLb dL_law_699 ?_
  change zA _ _ _ (aI (zq xs i 4) :: _) _
  refine s_callV [aI (zq xs i 1), aI (zq xs i 2), aI (zq xs i 3), aI (zq xs i 4)] [aI r] hz ml_L_78 sv_yX12_added (T_X12_added (z_rngI _) (z_rngI _) (z_rngI _) (z_rngI _) hW1 h2) (by decide) rfl sf51 rfl rfl (Nat.le_of_ble_eq_true rfl) dL_law_700 (fun rr2 hW2 => ?_)
  refine s_icmp_eq 1174 hz rr1 rr2 dL_law_703 rfl (fun _ => ?_) (fun c => absurd rfl c)
  exact K hW2
set_option maxHeartbeats 4000000 in
theorem LC_11 (hz : zO (zU z shF ad kc ks) cL_law RL 60 shF) (hN : zN z 7) (hA : zAl z) (hCe : ∀ a b : Nat, a ≤ kc + 1 → b ≤ ks + 6 → zCe z a b) (hs : zScr z (ad 999) L xs) (hLb : L < 2147483648) (h0 : 0 ≤ i) (h7 : i + 7 ≤ L) {S S1 S2 : HS} {r : Int} (hW : WR shF S) (h1 : M_X11_pull (zq xs i 1) S = some (r, S1)) (hW1 : WR shF S1) (h2 : M_X12_pull (zq xs i 1) S1 = some (r, S2)) (K : WR shF S2 → zA (zU z shF ad kc ks) 1174 [(0, aR 999), (1, aR 0), (2, aR 51), (3, aR 94), (4, aI i)] [] S2) : zA (zU z shF ad kc ks) 708 [(0, aR 999), (1, aR 0), (2, aR 51), (3, aR 94), (4, aI i)] [] S := by
  have ri : rng i := by unfold rng; omega
  refine s_aload_n 1 hz dL_law_708 rfl ?_
  refine s_aload_n 0 hz dL_law_709 rfl ?_
  refine s_iload 4 hz dL_law_710 rfl ?_
  refine s_iconst hz dL_law_712 ?_
  refine s_iadd hz dL_law_713 ?_
  refine s_sld hz hs (i := i + 1) (by omega) hLb dL_law_714 ?_
  change zA _ _ _ (aI (zq xs i 1) :: _) _
  refine s_callV [aI (zq xs i 1)] [] hz ml_L_79 sv_yX11_pull (zR_F (T_X11_pull (z_rngI _) (WR_X hW) h1) hW1) (by decide) rfl sfx0 rfl rfl (Nat.le_of_ble_eq_true rfl) dL_law_715 (fun rr1 hW1 => ?_)
  refine s_aload_n 2 hz dL_law_718 rfl ?_
  refine s_aload_n 0 hz dL_law_719 rfl ?_
  refine s_iload 4 hz dL_law_720 rfl ?_
  refine s_iconst hz dL_law_722 ?_
  refine s_iadd hz dL_law_723 ?_
  refine s_sld hz hs (i := i + 1) (by omega) hLb dL_law_724 ?_
  change zA _ _ _ (aI (zq xs i 1) :: _) _
  refine s_callV [aI (zq xs i 1)] [aI r] hz ml_L_83 sv_yX12_pull (T_X12_pull (z_rngI _) hW1 h2) (by decide) rfl sf51 rfl rfl (Nat.le_of_ble_eq_true rfl) dL_law_725 (fun rr2 hW2 => ?_)
  refine s_icmp_eq 1174 hz rr1 rr2 dL_law_728 rfl (fun _ => ?_) (fun c => absurd rfl c)
  exact K hW2
set_option maxHeartbeats 4000000 in
theorem LC_12 (hz : zO (zU z shF ad kc ks) cL_law RL 60 shF) (hN : zN z 7) (hA : zAl z) (hCe : ∀ a b : Nat, a ≤ kc + 1 → b ≤ ks + 6 → zCe z a b) (hs : zScr z (ad 999) L xs) (hLb : L < 2147483648) (h0 : 0 ≤ i) (h7 : i + 7 ≤ L) {S S1 S2 : HS} {r : Int} (hW : WR shF S) (h1 : M_X11_even (zq xs i 1) S = some (r, S1)) (hW1 : WR shF S1) (h2 : M_X12_even (zq xs i 1) S1 = some (r, S2)) (K : WR shF S2 → zA (zU z shF ad kc ks) 1174 [(0, aR 999), (1, aR 0), (2, aR 51), (3, aR 94), (4, aI i)] [] S2) : zA (zU z shF ad kc ks) 733 [(0, aR 999), (1, aR 0), (2, aR 51), (3, aR 94), (4, aI i)] [] S := by
  have ri : rng i := by unfold rng; omega
  refine s_aload_n 1 hz dL_law_733 rfl ?_
  refine s_aload_n 0 hz dL_law_734 rfl ?_
  refine s_iload 4 hz dL_law_735 rfl ?_
  refine s_iconst hz dL_law_737 ?_
  refine s_iadd hz dL_law_738 ?_
  refine s_sld hz hs (i := i + 1) (by omega) hLb dL_law_739 ?_
  change zA _ _ _ (aI (zq xs i 1) :: _) _
  refine s_callV [aI (zq xs i 1)] [] hz ml_L_84 sv_yX11_even (zR_F (T_X11_even (z_rngI _) (WR_X hW) h1) hW1) (by decide) rfl sfx0 rfl rfl (Nat.le_of_ble_eq_true rfl) dL_law_740 (fun rr1 hW1 => ?_)
  refine s_aload_n 2 hz dL_law_743 rfl ?_
  refine s_aload_n 0 hz dL_law_744 rfl ?_
  refine s_iload 4 hz dL_law_745 rfl ?_
  refine s_iconst hz dL_law_747 ?_
  refine s_iadd hz dL_law_748 ?_
  refine s_sld hz hs (i := i + 1) (by omega) hLb dL_law_749 ?_
  change zA _ _ _ (aI (zq xs i 1) :: _) _
  refine s_callV [aI (zq xs i 1)] [aI r] hz ml_L_87 sv_yX12_even (T_X12_even (z_rngI _) hW1 h2) (by decide) rfl sf51 rfl rfl (Nat.le_of_ble_eq_true rfl) dL_law_750 (fun rr2 hW2 => ?_)
  refine s_icmp_eq 1174 hz rr1 rr2 dL_law_753 rfl (fun _ => ?_) (fun c => absurd rfl c)
  exact K hW2
set_option maxHeartbeats 4000000 in
theorem LC_13 (hz : zO (zU z shF ad kc ks) cL_law RL 60 shF) (hN : zN z 7) (hA : zAl z) (hCe : ∀ a b : Nat, a ≤ kc + 1 → b ≤ ks + 6 → zCe z a b) (hs : zScr z (ad 999) L xs) (hLb : L < 2147483648) (h0 : 0 ≤ i) (h7 : i + 7 ≤ L) {S S1 S2 : HS} {r : Int} (hW : WR shF S) (h1 : M_X11_hangs (zq xs i 1) S = some (r, S1)) (hW1 : WR shF S1) (h2 : M_X12_hangs (zq xs i 1) S1 = some (r, S2)) (K : WR shF S2 → zA (zU z shF ad kc ks) 1174 [(0, aR 999), (1, aR 0), (2, aR 51), (3, aR 94), (4, aI i)] [] S2) : zA (zU z shF ad kc ks) 758 [(0, aR 999), (1, aR 0), (2, aR 51), (3, aR 94), (4, aI i)] [] S := by
  have ri : rng i := by unfold rng; omega
  refine s_aload_n 1 hz dL_law_758 rfl ?_
  refine s_aload_n 0 hz dL_law_759 rfl ?_
  refine s_iload 4 hz dL_law_760 rfl ?_
  refine s_iconst hz dL_law_762 ?_
  refine s_iadd hz dL_law_763 ?_
  refine s_sld hz hs (i := i + 1) (by omega) hLb dL_law_764 ?_
  change zA _ _ _ (aI (zq xs i 1) :: _) _
  refine s_callV [aI (zq xs i 1)] [] hz ml_L_88 sv_yX11_hangs (zR_F (T_X11_hangs (z_rngI _) (WR_X hW) h1) hW1) (by decide) rfl sfx0 rfl rfl (Nat.le_of_ble_eq_true rfl) dL_law_765 (fun rr1 hW1 => ?_)
  refine s_aload_n 2 hz dL_law_768 rfl ?_
  refine s_aload_n 0 hz dL_law_769 rfl ?_
  refine s_iload 4 hz dL_law_770 rfl ?_
  refine s_iconst hz dL_law_772 ?_
  refine s_iadd hz dL_law_773 ?_
  refine s_sld hz hs (i := i + 1) (by omega) hLb dL_law_774 ?_
  change zA _ _ _ (aI (zq xs i 1) :: _) _
  refine s_callV [aI (zq xs i 1)] [aI r] hz ml_L_91 sv_yX12_hangs (T_X12_hangs (z_rngI _) hW1 h2) (by decide) rfl sf51 rfl rfl (Nat.le_of_ble_eq_true rfl) dL_law_775 (fun rr2 hW2 => ?_)
  refine s_icmp_eq 1174 hz rr1 rr2 dL_law_778 rfl (fun _ => ?_) (fun c => absurd rfl c)
  exact K hW2
set_option maxHeartbeats 4000000 in
theorem LC_14 (hz : zO (zU z shF ad kc ks) cL_law RL 60 shF) (hN : zN z 7) (hA : zAl z) (hCe : ∀ a b : Nat, a ≤ kc + 1 → b ≤ ks + 6 → zCe z a b) (hs : zScr z (ad 999) L xs) (hLb : L < 2147483648) (h0 : 0 ≤ i) (h7 : i + 7 ≤ L) {S S1 S2 : HS} {r : Int} (hW : WR shF S) (h1 : M_X11_join (zq xs i 1) (zq xs i 2) (zq xs i 3) S = some (r, S1)) (hW1 : WR shF S1) (h2 : M_X12_join (zq xs i 1) (zq xs i 2) (zq xs i 3) S1 = some (r, S2)) (K : WR shF S2 → zA (zU z shF ad kc ks) 1174 [(0, aR 999), (1, aR 0), (2, aR 51), (3, aR 94), (4, aI i)] [] S2) : zA (zU z shF ad kc ks) 783 [(0, aR 999), (1, aR 0), (2, aR 51), (3, aR 94), (4, aI i)] [] S := by
  have ri : rng i := by unfold rng; omega
  refine s_aload_n 1 hz dL_law_783 rfl ?_
  refine s_aload_n 0 hz dL_law_784 rfl ?_
  refine s_iload 4 hz dL_law_785 rfl ?_
  refine s_iconst hz dL_law_787 ?_
  refine s_iadd hz dL_law_788 ?_
  refine s_sld hz hs (i := i + 1) (by omega) hLb dL_law_789 ?_
  change zA _ _ _ (aI (zq xs i 1) :: _) _
  refine s_aload_n 0 hz dL_law_790 rfl ?_
  refine s_iload 4 hz dL_law_791 rfl ?_
  refine s_iconst hz dL_law_793 ?_
  refine s_iadd hz dL_law_794 ?_
  refine s_sld hz hs (i := i + 2) (by omega) hLb dL_law_795 ?_
  change zA _ _ _ (aI (zq xs i 2) :: _) _
  refine s_aload_n 0 hz dL_law_796 rfl ?_
  refine s_iload 4 hz dL_law_797 rfl ?_
  refine s_iconst hz dL_law_799 ?_
  refine s_iadd hz dL_law_800 ?_
  refine s_sld hz hs (i := i + 3) (by omega) hLb dL_law_801 ?_
  change zA _ _ _ (aI (zq xs i 3) :: _) _
  refine s_callV [aI (zq xs i 1), aI (zq xs i 2), aI (zq xs i 3)] [] hz ml_L_92 sv_yX11_join (zR_F (T_X11_join (z_rngI _) (z_rngI _) (z_rngI _) (WR_X hW) h1) hW1) (by decide) rfl sfx0 rfl rfl (Nat.le_of_ble_eq_true rfl) dL_law_802 (fun rr1 hW1 => ?_)
  refine s_aload_n 2 hz dL_law_805 rfl ?_
  refine s_aload_n 0 hz dL_law_806 rfl ?_
  refine s_iload 4 hz dL_law_807 rfl ?_
  refine s_iconst hz dL_law_809 ?_
  refine s_iadd hz dL_law_810 ?_
  refine s_sld hz hs (i := i + 1) (by omega) hLb dL_law_811 ?_
  change zA _ _ _ (aI (zq xs i 1) :: _) _
  refine s_aload_n 0 hz dL_law_812 rfl ?_
  refine s_iload 4 hz dL_law_813 rfl ?_
  refine s_iconst hz dL_law_815 ?_
  refine s_iadd hz dL_law_816 ?_
  refine s_sld hz hs (i := i + 2) (by omega) hLb dL_law_817 ?_
  change zA _ _ _ (aI (zq xs i 2) :: _) _
  refine s_aload_n 0 hz dL_law_818 rfl ?_
  refine s_iload 4 hz dL_law_819 rfl ?_
  refine s_iconst hz dL_law_821 ?_
  refine s_iadd hz dL_law_822 ?_
  refine s_sld hz hs (i := i + 3) (by omega) hLb dL_law_823 ?_
  change zA _ _ _ (aI (zq xs i 3) :: _) _
  refine s_callV [aI (zq xs i 1), aI (zq xs i 2), aI (zq xs i 3)] [aI r] hz ml_L_95 sv_yX12_join (T_X12_join (z_rngI _) (z_rngI _) (z_rngI _) hW1 h2) (by decide) rfl sf51 rfl rfl (Nat.le_of_ble_eq_true rfl) dL_law_824 (fun rr2 hW2 => ?_)
  refine s_icmp_eq 1174 hz rr1 rr2 dL_law_827 rfl (fun _ => ?_) (fun c => absurd rfl c)
  exact K hW2
set_option maxHeartbeats 4000000 in
theorem LC_15 (hz : zO (zU z shF ad kc ks) cL_law RL 60 shF) (hN : zN z 7) (hA : zAl z) (hCe : ∀ a b : Nat, a ≤ kc + 1 → b ≤ ks + 6 → zCe z a b) (hfl : zFl z) (hs : zScr z (ad 999) L xs) (hLb : L < 2147483648) (h0 : 0 ≤ i) (h7 : i + 7 ≤ L) {S S0 S2 S3 : HS} {r b : Int} (hW : WR shF S) (h1 : M_X11_look kTT (zq xs i 1) (zq xs i 2) (zq xs i 3) S = some (r, S0)) (hW1 : WR shF (zHS r S0)) (h2 : M_X12_look (zq xs i 1) (zq xs i 2) (zq xs i 3) (zHS r S0) = some (b, S2)) (h3 : M_X12_thrown S2 = some ((zHk r), S3)) (hout : r ≠ zT → S3 94 0 = b) (K : WR shF S3 → zA (zU z shF ad (kc + 1) (ks + 6)) 1174 [(0, aR 999), (1, aR 0), (2, aR 51), (3, aR 94), (4, aI i)] [] S3) : zA (zU z shF ad kc ks) 832 [(0, aR 999), (1, aR 0), (2, aR 51), (3, aR 94), (4, aI i)] [] S := by
  have ri : rng i := by unfold rng; omega
  refine s_aload_n 1 hz dL_law_832 rfl ?_
  refine s_aload_n 0 hz dL_law_833 rfl ?_
  refine s_iload 4 hz dL_law_834 rfl ?_
  refine s_iconst hz dL_law_836 ?_
  refine s_iadd hz dL_law_837 ?_
  refine s_sld hz hs (i := i + 1) (by omega) hLb dL_law_838 ?_
  change zA _ _ _ (aI (zq xs i 1) :: _) _
  refine s_aload_n 0 hz dL_law_839 rfl ?_
  refine s_iload 4 hz dL_law_840 rfl ?_
  refine s_iconst hz dL_law_842 ?_
  refine s_iadd hz dL_law_843 ?_
  refine s_sld hz hs (i := i + 2) (by omega) hLb dL_law_844 ?_
  change zA _ _ _ (aI (zq xs i 2) :: _) _
  refine s_aload_n 0 hz dL_law_845 rfl ?_
  refine s_iload 4 hz dL_law_846 rfl ?_
  refine s_iconst hz dL_law_848 ?_
  refine s_iadd hz dL_law_849 ?_
  refine s_sld hz hs (i := i + 3) (by omega) hLb dL_law_850 ?_
  change zA _ _ _ (aI (zq xs i 3) :: _) _
  refine s_aload_n 3 hz dL_law_851 rfl ?_
  refine s_help [aR 0, aI (zq xs i 1), aI (zq xs i 2), aI (zq xs i 3), aR 94] [] hz hA (hCe _ _ (by omega) (by omega)) hL_96 (TH_look (z_rngI _) (z_rngI _) (z_rngI _) (WR_X hW) h1) hfl (by decide) rfl rfl (Nat.le_of_ble_eq_true rfl) dL_law_852 (fun hz => ?_)
  refine s_istore (l' := [(5, aI (zHk r)), (0, aR 999), (1, aR 0), (2, aR 51), (3, aR 94), (4, aI i)]) hz (zN_U hN) dL_law_855 (by decide) rfl ?_
  refine s_aload_n 3 hz dL_law_857 rfl ?_
  refine s_aload_n 1 hz dL_law_858 rfl ?_
  refine s_iload 5 hz dL_law_859 rfl ?_
  refine s_iconst hz dL_law_861 ?_
  refine s_iadd hz dL_law_862 ?_
  refine s_sld hz hs (i := i + 1) (by omega) hLb dL_law_863 ?_
  change zA _ _ _ (aI (zq xs i 1) :: _) _
  refine s_aload_n 1 hz dL_law_864 rfl ?_
  refine s_iload 5 hz dL_law_865 rfl ?_
  refine s_iconst hz dL_law_867 ?_
  refine s_iadd hz dL_law_868 ?_
  refine s_sld hz hs (i := i + 2) (by omega) hLb dL_law_869 ?_
  change zA _ _ _ (aI (zq xs i 2) :: _) _
  refine s_aload_n 1 hz dL_law_870 rfl ?_
  refine s_iload 5 hz dL_law_871 rfl ?_
  refine s_iconst hz dL_law_873 ?_
  refine s_iadd hz dL_law_874 ?_
  refine s_sld hz hs (i := i + 3) (by omega) hLb dL_law_875 ?_
  change zA _ _ _ (aI (zq xs i 3) :: _) _
  refine s_callV [aI (zq xs i 1), aI (zq xs i 2), aI (zq xs i 3)] [] hz ml_L_98 sv_yX12_look (T_X12_look (z_rngI _) (z_rngI _) (z_rngI _) hW1 h2) (by decide) rfl sf51 rfl rfl (Nat.le_of_ble_eq_true rfl) dL_law_876 (fun rr2 hW2 => ?_)
  refine s_istore (l' := [(6, aI b), (5, aI (zHk r)), (0, aR 999), (1, aR 0), (2, aR 51), (3, aR 94), (4, aI i)]) hz (zN_U hN) dL_law_879 (by decide) rfl ?_
  refine s_aload_n 4 hz dL_law_881 rfl ?_
  refine s_callV [] [] hz ml_L_71 sv_yX12_thrown (T_X12_thrown hW2 h3) (by decide) rfl sf51 rfl rfl (Nat.le_of_ble_eq_true rfl) dL_law_882 (fun rr3 hW3 => ?_)
  refine s_iload 1 hz dL_law_885 rfl ?_
  refine s_icmp_eq 892 hz rr3 rr3 dL_law_887 rfl (fun _ => ?_) (fun c => absurd rfl c)
  refine s_iload 1 hz dL_law_892 rfl ?_
  refine s_if_ne 909 hz zHk_r dL_law_894 rfl (fun c => ?_) (fun c => ?_)
  · refine s_goto 1174 hz dL_law_909 rfl ?_
    refine s_pick (l' := [(0, aR 999), (1, aR 0), (2, aR 51), (3, aR 94), (4, aI i)]) [2, 3, 4, 5, 6] rfl ?_
    exact K hW3
  have hne : r ≠ zT := zHk_0 c
  refine s_aload_n 5 hz dL_law_897 rfl ?_
  refine s_iconst hz dL_law_898 ?_
  refine s_lald hz sf94 rfl (by decide) (by decide) dL_law_899 ?_
  refine s_iload 0 hz dL_law_900 rfl ?_
  refine s_i2l hz rr2 dL_law_902 ?_
  refine s_lcmp hz (hW3 94 _ sf94 0) (z_ri rr2) dL_law_903 ?_
  refine s_if_eq 909 hz zcmp_r dL_law_904 rfl (fun _ => ?_) (fun c => absurd (hout hne) (zcmp_ne c))
  refine s_goto 1174 hz dL_law_909 rfl ?_
  refine s_pick (l' := [(0, aR 999), (1, aR 0), (2, aR 51), (3, aR 94), (4, aI i)]) [2, 3, 4, 5, 6] rfl ?_
  exact K hW3
set_option maxHeartbeats 4000000 in
theorem LC_16 (hz : zO (zU z shF ad kc ks) cL_law RL 60 shF) (hN : zN z 7) (hA : zAl z) (hCe : ∀ a b : Nat, a ≤ kc + 1 → b ≤ ks + 6 → zCe z a b) (hs : zScr z (ad 999) L xs) (hLb : L < 2147483648) (h0 : 0 ≤ i) (h7 : i + 7 ≤ L) {S S1 S2 : HS} {r : Int} (hW : WR shF S) (h1 : M_X11_work (zq xs i 1) S = some (r, S1)) (hW1 : WR shF S1) (h2 : M_X12_work (zq xs i 1) S1 = some (r, S2)) (K : WR shF S2 → zA (zU z shF ad kc ks) 1174 [(0, aR 999), (1, aR 0), (2, aR 51), (3, aR 94), (4, aI i)] [] S2) : zA (zU z shF ad kc ks) 912 [(0, aR 999), (1, aR 0), (2, aR 51), (3, aR 94), (4, aI i)] [] S := by
  have ri : rng i := by unfold rng; omega
  refine s_aload_n 1 hz dL_law_912 rfl ?_
  refine s_aload_n 0 hz dL_law_913 rfl ?_
  refine s_iload 4 hz dL_law_914 rfl ?_
  refine s_iconst hz dL_law_916 ?_
  refine s_iadd hz dL_law_917 ?_
  refine s_sld hz hs (i := i + 1) (by omega) hLb dL_law_918 ?_
  change zA _ _ _ (aI (zq xs i 1) :: _) _
  refine s_callV [aI (zq xs i 1)] [] hz ml_L_99 sv_yX11_work (zR_F (T_X11_work (z_rngI _) (WR_X hW) h1) hW1) (by decide) rfl sfx0 rfl rfl (Nat.le_of_ble_eq_true rfl) dL_law_919 (fun rr1 hW1 => ?_)
  refine s_aload_n 2 hz dL_law_922 rfl ?_
  refine s_aload_n 0 hz dL_law_923 rfl ?_
  refine s_iload 4 hz dL_law_924 rfl ?_
  refine s_iconst hz dL_law_926 ?_
  refine s_iadd hz dL_law_927 ?_
  refine s_sld hz hs (i := i + 1) (by omega) hLb dL_law_928 ?_
  change zA _ _ _ (aI (zq xs i 1) :: _) _
  refine s_callV [aI (zq xs i 1)] [aI r] hz ml_L_102 sv_yX12_work (T_X12_work (z_rngI _) hW1 h2) (by decide) rfl sf51 rfl rfl (Nat.le_of_ble_eq_true rfl) dL_law_929 (fun rr2 hW2 => ?_)
  refine s_icmp_eq 1174 hz rr1 rr2 dL_law_932 rfl (fun _ => ?_) (fun c => absurd rfl c)
  exact K hW2
set_option maxHeartbeats 4000000 in
theorem LC_17 (hz : zO (zU z shF ad kc ks) cL_law RL 60 shF) (hN : zN z 7) (hA : zAl z) (hCe : ∀ a b : Nat, a ≤ kc + 1 → b ≤ ks + 6 → zCe z a b) (hs : zScr z (ad 999) L xs) (hLb : L < 2147483648) (h0 : 0 ≤ i) (h7 : i + 7 ≤ L) {S S1 S2 : HS} {r : Int} (hW : WR shF S) (h1 : M_X11_hands (zq xs i 1) (zq xs i 2) (zq xs i 3) S = some (r, S1)) (hW1 : WR shF S1) (h2 : M_X12_hands (zq xs i 1) (zq xs i 2) (zq xs i 3) S1 = some (r, S2)) (K : WR shF S2 → zA (zU z shF ad kc ks) 1174 [(0, aR 999), (1, aR 0), (2, aR 51), (3, aR 94), (4, aI i)] [] S2) : zA (zU z shF ad kc ks) 937 [(0, aR 999), (1, aR 0), (2, aR 51), (3, aR 94), (4, aI i)] [] S := by
  have ri : rng i := by unfold rng; omega
  refine s_aload_n 1 hz dL_law_937 rfl ?_
  refine s_aload_n 0 hz dL_law_938 rfl ?_
  refine s_iload 4 hz dL_law_939 rfl ?_
  refine s_iconst hz dL_law_941 ?_
  refine s_iadd hz dL_law_942 ?_
  refine s_sld hz hs (i := i + 1) (by omega) hLb dL_law_943 ?_
  change zA _ _ _ (aI (zq xs i 1) :: _) _
  refine s_aload_n 0 hz dL_law_944 rfl ?_
  refine s_iload 4 hz dL_law_945 rfl ?_
  refine s_iconst hz dL_law_947 ?_
  refine s_iadd hz dL_law_948 ?_
  refine s_sld hz hs (i := i + 2) (by omega) hLb dL_law_949 ?_
  change zA _ _ _ (aI (zq xs i 2) :: _) _
  refine s_aload_n 0 hz dL_law_950 rfl ?_
  refine s_iload 4 hz dL_law_951 rfl ?_
  refine s_iconst hz dL_law_953 ?_
  refine s_iadd hz dL_law_954 ?_
  refine s_sld hz hs (i := i + 3) (by omega) hLb dL_law_955 ?_
  change zA _ _ _ (aI (zq xs i 3) :: _) _
  refine s_callV [aI (zq xs i 1), aI (zq xs i 2), aI (zq xs i 3)] [] hz ml_L_103 sv_yX11_hands (zR_F (T_X11_hands (z_rngI _) (z_rngI _) (z_rngI _) (WR_X hW) h1) hW1) (by decide) rfl sfx0 rfl rfl (Nat.le_of_ble_eq_true rfl) dL_law_956 (fun rr1 hW1 => ?_)
  refine s_aload_n 2 hz dL_law_959 rfl ?_
  refine s_aload_n 0 hz dL_law_960 rfl ?_
  refine s_iload 4 hz dL_law_961 rfl ?_
  refine s_iconst hz dL_law_963 ?_
  refine s_iadd hz dL_law_964 ?_
  refine s_sld hz hs (i := i + 1) (by omega) hLb dL_law_965 ?_
  change zA _ _ _ (aI (zq xs i 1) :: _) _
  refine s_aload_n 0 hz dL_law_966 rfl ?_
  refine s_iload 4 hz dL_law_967 rfl ?_
  refine s_iconst hz dL_law_969 ?_
  refine s_iadd hz dL_law_970 ?_
  refine s_sld hz hs (i := i + 2) (by omega) hLb dL_law_971 ?_
  change zA _ _ _ (aI (zq xs i 2) :: _) _
  refine s_aload_n 0 hz dL_law_972 rfl ?_
  refine s_iload 4 hz dL_law_973 rfl ?_
  refine s_iconst hz dL_law_975 ?_
  refine s_iadd hz dL_law_976 ?_
  refine s_sld hz hs (i := i + 3) (by omega) hLb dL_law_977 ?_
  change zA _ _ _ (aI (zq xs i 3) :: _) _
  refine s_callV [aI (zq xs i 1), aI (zq xs i 2), aI (zq xs i 3)] [aI r] hz ml_L_106 sv_yX12_hands (T_X12_hands (z_rngI _) (z_rngI _) (z_rngI _) hW1 h2) (by decide) rfl sf51 rfl rfl (Nat.le_of_ble_eq_true rfl) dL_law_978 (fun rr2 hW2 => ?_)
  refine s_icmp_eq 1174 hz rr1 rr2 dL_law_981 rfl (fun _ => ?_) (fun c => absurd rfl c)
  exact K hW2
set_option maxHeartbeats 4000000 in
theorem LC_18 (hz : zO (zU z shF ad kc ks) cL_law RL 60 shF) (hN : zN z 7) (hA : zAl z) (hCe : ∀ a b : Nat, a ≤ kc + 1 → b ≤ ks + 6 → zCe z a b) (hs : zScr z (ad 999) L xs) (hLb : L < 2147483648) (h0 : 0 ≤ i) (h7 : i + 7 ≤ L) {S S1 S2 : HS} {r : Int} (hW : WR shF S) (h1 : M_X11_plan (zq xs i 1) S = some (r, S1)) (hW1 : WR shF S1) (h2 : M_X12_plan (zq xs i 1) S1 = some (r, S2)) (K : WR shF S2 → zA (zU z shF ad kc ks) 1174 [(0, aR 999), (1, aR 0), (2, aR 51), (3, aR 94), (4, aI i)] [] S2) : zA (zU z shF ad kc ks) 986 [(0, aR 999), (1, aR 0), (2, aR 51), (3, aR 94), (4, aI i)] [] S := by
  have ri : rng i := by unfold rng; omega
  refine s_aload_n 1 hz dL_law_986 rfl ?_
  refine s_aload_n 0 hz dL_law_987 rfl ?_
  refine s_iload 4 hz dL_law_988 rfl ?_
  refine s_iconst hz dL_law_990 ?_
  refine s_iadd hz dL_law_991 ?_
  refine s_sld hz hs (i := i + 1) (by omega) hLb dL_law_992 ?_
  change zA _ _ _ (aI (zq xs i 1) :: _) _
  refine s_callV [aI (zq xs i 1)] [] hz ml_L_107 sv_yX11_plan (zR_F (T_X11_plan (z_rngI _) (WR_X hW) h1) hW1) (by decide) rfl sfx0 rfl rfl (Nat.le_of_ble_eq_true rfl) dL_law_993 (fun rr1 hW1 => ?_)
  refine s_aload_n 2 hz dL_law_996 rfl ?_
  refine s_aload_n 0 hz dL_law_997 rfl ?_
  refine s_iload 4 hz dL_law_998 rfl ?_
  refine s_iconst hz dL_law_1000 ?_
  refine s_iadd hz dL_law_1001 ?_
  refine s_sld hz hs (i := i + 1) (by omega) hLb dL_law_1002 ?_
  change zA _ _ _ (aI (zq xs i 1) :: _) _
  refine s_callV [aI (zq xs i 1)] [aI r] hz ml_L_110 sv_yX12_plan (T_X12_plan (z_rngI _) hW1 h2) (by decide) rfl sf51 rfl rfl (Nat.le_of_ble_eq_true rfl) dL_law_1003 (fun rr2 hW2 => ?_)
  refine s_icmp_eq 1174 hz rr1 rr2 dL_law_1006 rfl (fun _ => ?_) (fun c => absurd rfl c)
  exact K hW2
set_option maxHeartbeats 4000000 in
theorem LC_19 (hz : zO (zU z shF ad kc ks) cL_law RL 60 shF) (hN : zN z 7) (hA : zAl z) (hCe : ∀ a b : Nat, a ≤ kc + 1 → b ≤ ks + 6 → zCe z a b) (hs : zScr z (ad 999) L xs) (hLb : L < 2147483648) (h0 : 0 ≤ i) (h7 : i + 7 ≤ L) {S S1 S2 : HS} {r : Int} (hW : WR shF S) (h1 : M_X11_planned (zq xs i 1) S = some (r, S1)) (hW1 : WR shF S1) (h2 : M_X12_planned (zq xs i 1) S1 = some (r, S2)) (K : WR shF S2 → zA (zU z shF ad kc ks) 1174 [(0, aR 999), (1, aR 0), (2, aR 51), (3, aR 94), (4, aI i)] [] S2) : zA (zU z shF ad kc ks) 1011 [(0, aR 999), (1, aR 0), (2, aR 51), (3, aR 94), (4, aI i)] [] S := by
  have ri : rng i := by unfold rng; omega
  refine s_aload_n 1 hz dL_law_1011 rfl ?_
  refine s_aload_n 0 hz dL_law_1012 rfl ?_
  refine s_iload 4 hz dL_law_1013 rfl ?_
  refine s_iconst hz dL_law_1015 ?_
  refine s_iadd hz dL_law_1016 ?_
  refine s_sld hz hs (i := i + 1) (by omega) hLb dL_law_1017 ?_
  change zA _ _ _ (aI (zq xs i 1) :: _) _
  refine s_callV [aI (zq xs i 1)] [] hz ml_L_111 sv_yX11_planned (zR_F (T_X11_planned (z_rngI _) (WR_X hW) h1) hW1) (by decide) rfl sfx0 rfl rfl (Nat.le_of_ble_eq_true rfl) dL_law_1018 (fun rr1 hW1 => ?_)
  refine s_aload_n 2 hz dL_law_1021 rfl ?_
  refine s_aload_n 0 hz dL_law_1022 rfl ?_
  refine s_iload 4 hz dL_law_1023 rfl ?_
  refine s_iconst hz dL_law_1025 ?_
  refine s_iadd hz dL_law_1026 ?_
  refine s_sld hz hs (i := i + 1) (by omega) hLb dL_law_1027 ?_
  change zA _ _ _ (aI (zq xs i 1) :: _) _
  refine s_callV [aI (zq xs i 1)] [aI r] hz ml_L_114 sv_yX12_planned (T_X12_planned (z_rngI _) hW1 h2) (by decide) rfl sf51 rfl rfl (Nat.le_of_ble_eq_true rfl) dL_law_1028 (fun rr2 hW2 => ?_)
  refine s_icmp_eq 1174 hz rr1 rr2 dL_law_1031 rfl (fun _ => ?_) (fun c => absurd rfl c)
  exact K hW2
set_option maxHeartbeats 4000000 in
theorem LC_20 (hz : zO (zU z shF ad kc ks) cL_law RL 60 shF) (hN : zN z 7) (hA : zAl z) (hCe : ∀ a b : Nat, a ≤ kc + 1 → b ≤ ks + 6 → zCe z a b) (hs : zScr z (ad 999) L xs) (hLb : L < 2147483648) (h0 : 0 ≤ i) (h7 : i + 7 ≤ L) {S S1 S2 : HS} {r : Int} (hW : WR shF S) (h1 : M_X11_done S = some (r, S1)) (hW1 : WR shF S1) (h2 : M_X12_done S1 = some (r, S2)) (K : WR shF S2 → zA (zU z shF ad kc ks) 1174 [(0, aR 999), (1, aR 0), (2, aR 51), (3, aR 94), (4, aI i)] [] S2) : zA (zU z shF ad kc ks) 1036 [(0, aR 999), (1, aR 0), (2, aR 51), (3, aR 94), (4, aI i)] [] S := by
  have ri : rng i := by unfold rng; omega
  refine s_aload_n 1 hz dL_law_1036 rfl ?_
  refine s_callV [] [] hz ml_L_115 sv_yX11_done (zR_F (T_X11_done (WR_X hW) h1) hW1) (by decide) rfl sfx0 rfl rfl (Nat.le_of_ble_eq_true rfl) dL_law_1037 (fun rr1 hW1 => ?_)
  refine s_aload_n 2 hz dL_law_1040 rfl ?_
  refine s_callV [] [aI r] hz ml_L_118 sv_yX12_done (T_X12_done hW1 h2) (by decide) rfl sf51 rfl rfl (Nat.le_of_ble_eq_true rfl) dL_law_1041 (fun rr2 hW2 => ?_)
  refine s_icmp_eq 1174 hz rr1 rr2 dL_law_1044 rfl (fun _ => ?_) (fun c => absurd rfl c)
  exact K hW2
set_option maxHeartbeats 4000000 in
theorem LC_21 (hz : zO (zU z shF ad kc ks) cL_law RL 60 shF) (hN : zN z 7) (hA : zAl z) (hCe : ∀ a b : Nat, a ≤ kc + 1 → b ≤ ks + 6 → zCe z a b) (hs : zScr z (ad 999) L xs) (hLb : L < 2147483648) (h0 : 0 ≤ i) (h7 : i + 7 ≤ L) {S S1 S2 : HS} {r : Int} (hW : WR shF S) (h1 : M_X11_weeks (zq xs i 1) S = some (r, S1)) (hW1 : WR shF S1) (h2 : M_X12_weeks (zq xs i 1) S1 = some (r, S2)) (K : WR shF S2 → zA (zU z shF ad kc ks) 1174 [(0, aR 999), (1, aR 0), (2, aR 51), (3, aR 94), (4, aI i)] [] S2) : zA (zU z shF ad kc ks) 1049 [(0, aR 999), (1, aR 0), (2, aR 51), (3, aR 94), (4, aI i)] [] S := by
  have ri : rng i := by unfold rng; omega
  refine s_aload_n 1 hz dL_law_1049 rfl ?_
  refine s_aload_n 0 hz dL_law_1050 rfl ?_
  refine s_iload 4 hz dL_law_1051 rfl ?_
  refine s_iconst hz dL_law_1053 ?_
  refine s_iadd hz dL_law_1054 ?_
  refine s_sld hz hs (i := i + 1) (by omega) hLb dL_law_1055 ?_
  change zA _ _ _ (aI (zq xs i 1) :: _) _
  refine s_callV [aI (zq xs i 1)] [] hz ml_L_119 sv_yX11_weeks (zR_F (T_X11_weeks (z_rngI _) (WR_X hW) h1) hW1) (by decide) rfl sfx0 rfl rfl (Nat.le_of_ble_eq_true rfl) dL_law_1056 (fun rr1 hW1 => ?_)
  refine s_aload_n 2 hz dL_law_1059 rfl ?_
  refine s_aload_n 0 hz dL_law_1060 rfl ?_
  refine s_iload 4 hz dL_law_1061 rfl ?_
  refine s_iconst hz dL_law_1063 ?_
  refine s_iadd hz dL_law_1064 ?_
  refine s_sld hz hs (i := i + 1) (by omega) hLb dL_law_1065 ?_
  change zA _ _ _ (aI (zq xs i 1) :: _) _
  refine s_callV [aI (zq xs i 1)] [aI r] hz ml_L_122 sv_yX12_weeks (T_X12_weeks (z_rngI _) hW1 h2) (by decide) rfl sf51 rfl rfl (Nat.le_of_ble_eq_true rfl) dL_law_1066 (fun rr2 hW2 => ?_)
  refine s_icmp_eq 1174 hz rr1 rr2 dL_law_1069 rfl (fun _ => ?_) (fun c => absurd rfl c)
  exact K hW2
set_option maxHeartbeats 4000000 in
theorem LC_22 (hz : zO (zU z shF ad kc ks) cL_law RL 60 shF) (hN : zN z 7) (hA : zAl z) (hCe : ∀ a b : Nat, a ≤ kc + 1 → b ≤ ks + 6 → zCe z a b) (hs : zScr z (ad 999) L xs) (hLb : L < 2147483648) (h0 : 0 ≤ i) (h7 : i + 7 ≤ L) {S S1 S2 : HS} {r : Int} (hW : WR shF S) (h1 : M_X11_holds (zq xs i 1) S = some (r, S1)) (hW1 : WR shF S1) (h2 : M_X12_holds (zq xs i 1) S1 = some (r, S2)) (K : WR shF S2 → zA (zU z shF ad kc ks) 1174 [(0, aR 999), (1, aR 0), (2, aR 51), (3, aR 94), (4, aI i)] [] S2) : zA (zU z shF ad kc ks) 1074 [(0, aR 999), (1, aR 0), (2, aR 51), (3, aR 94), (4, aI i)] [] S := by
  have ri : rng i := by unfold rng; omega
  refine s_aload_n 1 hz dL_law_1074 rfl ?_
  refine s_aload_n 0 hz dL_law_1075 rfl ?_
  refine s_iload 4 hz dL_law_1076 rfl ?_
  refine s_iconst hz dL_law_1078 ?_
  refine s_iadd hz dL_law_1079 ?_
  refine s_sld hz hs (i := i + 1) (by omega) hLb dL_law_1080 ?_
  change zA _ _ _ (aI (zq xs i 1) :: _) _
  refine s_callV [aI (zq xs i 1)] [] hz ml_L_123 sv_yX11_holds (zR_F (T_X11_holds (z_rngI _) (WR_X hW) h1) hW1) (by decide) rfl sfx0 rfl rfl (Nat.le_of_ble_eq_true rfl) dL_law_1081 (fun rr1 hW1 => ?_)
  refine s_aload_n 2 hz dL_law_1084 rfl ?_
  refine s_aload_n 0 hz dL_law_1085 rfl ?_
  refine s_iload 4 hz dL_law_1086 rfl ?_
  refine s_iconst hz dL_law_1088 ?_
  refine s_iadd hz dL_law_1089 ?_
  refine s_sld hz hs (i := i + 1) (by omega) hLb dL_law_1090 ?_
  change zA _ _ _ (aI (zq xs i 1) :: _) _
  refine s_callV [aI (zq xs i 1)] [aI r] hz ml_L_126 sv_yX12_holds (T_X12_holds (z_rngI _) hW1 h2) (by decide) rfl sf51 rfl rfl (Nat.le_of_ble_eq_true rfl) dL_law_1091 (fun rr2 hW2 => ?_)
  refine s_icmp_eq 1174 hz rr1 rr2 dL_law_1094 rfl (fun _ => ?_) (fun c => absurd rfl c)
  exact K hW2
set_option maxHeartbeats 4000000 in
theorem LC_23 (hz : zO (zU z shF ad kc ks) cL_law RL 60 shF) (hN : zN z 7) (hA : zAl z) (hCe : ∀ a b : Nat, a ≤ kc + 1 → b ≤ ks + 6 → zCe z a b) (hs : zScr z (ad 999) L xs) (hLb : L < 2147483648) (h0 : 0 ≤ i) (h7 : i + 7 ≤ L) {S S1 S2 : HS} {r : Int} (hW : WR shF S) (h1 : M_X11_isOut (zq xs i 1) S = some (r, S1)) (hW1 : WR shF S1) (h2 : M_X12_isOut (zq xs i 1) S1 = some (r, S2)) (K : WR shF S2 → zA (zU z shF ad kc ks) 1174 [(0, aR 999), (1, aR 0), (2, aR 51), (3, aR 94), (4, aI i)] [] S2) : zA (zU z shF ad kc ks) 1099 [(0, aR 999), (1, aR 0), (2, aR 51), (3, aR 94), (4, aI i)] [] S := by
  have ri : rng i := by unfold rng; omega
  refine s_aload_n 1 hz dL_law_1099 rfl ?_
  refine s_aload_n 0 hz dL_law_1100 rfl ?_
  refine s_iload 4 hz dL_law_1101 rfl ?_
  refine s_iconst hz dL_law_1103 ?_
  refine s_iadd hz dL_law_1104 ?_
  refine s_sld hz hs (i := i + 1) (by omega) hLb dL_law_1105 ?_
  change zA _ _ _ (aI (zq xs i 1) :: _) _
  refine s_callV [aI (zq xs i 1)] [] hz ml_L_127 sv_yX11_isOut (zR_F (T_X11_isOut (z_rngI _) (WR_X hW) h1) hW1) (by decide) rfl sfx0 rfl rfl (Nat.le_of_ble_eq_true rfl) dL_law_1106 (fun rr1 hW1 => ?_)
  refine s_aload_n 2 hz dL_law_1109 rfl ?_
  refine s_aload_n 0 hz dL_law_1110 rfl ?_
  refine s_iload 4 hz dL_law_1111 rfl ?_
  refine s_iconst hz dL_law_1113 ?_
  refine s_iadd hz dL_law_1114 ?_
  refine s_sld hz hs (i := i + 1) (by omega) hLb dL_law_1115 ?_
  change zA _ _ _ (aI (zq xs i 1) :: _) _
  refine s_callV [aI (zq xs i 1)] [aI r] hz ml_L_130 sv_yX12_isOut (T_X12_isOut (z_rngI _) hW1 h2) (by decide) rfl sf51 rfl rfl (Nat.le_of_ble_eq_true rfl) dL_law_1116 (fun rr2 hW2 => ?_)
  refine s_icmp_eq 1174 hz rr1 rr2 dL_law_1119 rfl (fun _ => ?_) (fun c => absurd rfl c)
  exact K hW2
set_option maxHeartbeats 4000000 in
theorem LC_24 (hz : zO (zU z shF ad kc ks) cL_law RL 60 shF) (hN : zN z 7) (hA : zAl z) (hCe : ∀ a b : Nat, a ≤ kc + 1 → b ≤ ks + 6 → zCe z a b) (hs : zScr z (ad 999) L xs) (hLb : L < 2147483648) (h0 : 0 ≤ i) (h7 : i + 7 ≤ L) {S S1 S2 : HS} {r : Int} (hW : WR shF S) (h1 : M_X11_redo (zq xs i 1) S = some (r, S1)) (hW1 : WR shF S1) (h2 : M_X12_redo (zq xs i 1) S1 = some (r, S2)) (K : WR shF S2 → zA (zU z shF ad kc ks) 1174 [(0, aR 999), (1, aR 0), (2, aR 51), (3, aR 94), (4, aI i)] [] S2) : zA (zU z shF ad kc ks) 1124 [(0, aR 999), (1, aR 0), (2, aR 51), (3, aR 94), (4, aI i)] [] S := by
  have ri : rng i := by unfold rng; omega
  refine s_aload_n 1 hz dL_law_1124 rfl ?_
  refine s_aload_n 0 hz dL_law_1125 rfl ?_
  refine s_iload 4 hz dL_law_1126 rfl ?_
  refine s_iconst hz dL_law_1128 ?_
  refine s_iadd hz dL_law_1129 ?_
  refine s_sld hz hs (i := i + 1) (by omega) hLb dL_law_1130 ?_
  change zA _ _ _ (aI (zq xs i 1) :: _) _
  refine s_callV [aI (zq xs i 1)] [] hz ml_L_131 sv_yX11_redo (zR_F (T_X11_redo (z_rngI _) (WR_X hW) h1) hW1) (by decide) rfl sfx0 rfl rfl (Nat.le_of_ble_eq_true rfl) dL_law_1131 (fun rr1 hW1 => ?_)
  refine s_aload_n 2 hz dL_law_1134 rfl ?_
  refine s_aload_n 0 hz dL_law_1135 rfl ?_
  refine s_iload 4 hz dL_law_1136 rfl ?_
  refine s_iconst hz dL_law_1138 ?_
  refine s_iadd hz dL_law_1139 ?_
  refine s_sld hz hs (i := i + 1) (by omega) hLb dL_law_1140 ?_
  change zA _ _ _ (aI (zq xs i 1) :: _) _
  refine s_callV [aI (zq xs i 1)] [aI r] hz ml_L_134 sv_yX12_redo (T_X12_redo (z_rngI _) hW1 h2) (by decide) rfl sf51 rfl rfl (Nat.le_of_ble_eq_true rfl) dL_law_1141 (fun rr2 hW2 => ?_)
  refine s_icmp_eq 1174 hz rr1 rr2 dL_law_1144 rfl (fun _ => ?_) (fun c => absurd rfl c)
  exact K hW2
set_option maxHeartbeats 4000000 in
theorem LC_25 (hz : zO (zU z shF ad kc ks) cL_law RL 60 shF) (hN : zN z 7) (hA : zAl z) (hCe : ∀ a b : Nat, a ≤ kc + 1 → b ≤ ks + 6 → zCe z a b) (hs : zScr z (ad 999) L xs) (hLb : L < 2147483648) (h0 : 0 ≤ i) (h7 : i + 7 ≤ L) {S S1 S2 : HS} {r : Int} (hW : WR shF S) (h1 : M_X11_count (zq xs i 1) S = some (r, S1)) (hW1 : WR shF S1) (h2 : M_X12_count (zq xs i 1) S1 = some (r, S2)) (K : WR shF S2 → zA (zU z shF ad kc ks) 1174 [(0, aR 999), (1, aR 0), (2, aR 51), (3, aR 94), (4, aI i)] [] S2) : zA (zU z shF ad kc ks) 1149 [(0, aR 999), (1, aR 0), (2, aR 51), (3, aR 94), (4, aI i)] [] S := by
  have ri : rng i := by unfold rng; omega
  refine s_aload_n 1 hz dL_law_1149 rfl ?_
  refine s_aload_n 0 hz dL_law_1150 rfl ?_
  refine s_iload 4 hz dL_law_1151 rfl ?_
  refine s_iconst hz dL_law_1153 ?_
  refine s_iadd hz dL_law_1154 ?_
  refine s_sld hz hs (i := i + 1) (by omega) hLb dL_law_1155 ?_
  change zA _ _ _ (aI (zq xs i 1) :: _) _
  refine s_callV [aI (zq xs i 1)] [] hz ml_L_135 sv_yX11_count (zR_F (T_X11_count (z_rngI _) (WR_X hW) h1) hW1) (by decide) rfl sfx0 rfl rfl (Nat.le_of_ble_eq_true rfl) dL_law_1156 (fun rr1 hW1 => ?_)
  refine s_aload_n 2 hz dL_law_1159 rfl ?_
  refine s_aload_n 0 hz dL_law_1160 rfl ?_
  refine s_iload 4 hz dL_law_1161 rfl ?_
  refine s_iconst hz dL_law_1163 ?_
  refine s_iadd hz dL_law_1164 ?_
  refine s_sld hz hs (i := i + 1) (by omega) hLb dL_law_1165 ?_
  change zA _ _ _ (aI (zq xs i 1) :: _) _
  refine s_callV [aI (zq xs i 1)] [aI r] hz ml_L_138 sv_yX12_count (T_X12_count (z_rngI _) hW1 h2) (by decide) rfl sf51 rfl rfl (Nat.le_of_ble_eq_true rfl) dL_law_1166 (fun rr2 hW2 => ?_)
  refine s_icmp_eq 1174 hz rr1 rr2 dL_law_1169 rfl (fun _ => ?_) (fun c => absurd rfl c)
  exact K hW2
def OK_0 (Inv : HS → Prop) (S : HS) : Prop := ∀ q1 q2 q3 : Int, rng q1 → rng q2 → rng q3 → ∃ (r : Int) (S1 S2 : HS), M_X11_cell q1 q2 q3 S = some (r, S1) ∧ WR shF S1 ∧ M_X12_cell q1 q2 q3 S1 = some (r, S2) ∧ Inv S2
def OK_1 (Inv : HS → Prop) (S : HS) : Prop := ∀ q1 : Int, rng q1 → ∃ (r : Int) (S1 S2 : HS), M_X11_length q1 S = some (r, S1) ∧ WR shF S1 ∧ M_X12_length q1 S1 = some (r, S2) ∧ Inv S2
def OK_2 (Inv : HS → Prop) (S : HS) : Prop := ∀ e1 e2 e3 : Int, rng6 e1 → rng6 e2 → rng6 e3 → ∃ (r : Int) (S1 S2 : HS), M_X11_feed e1 e2 e3 S = some (r, S1) ∧ WR shF S1 ∧ M_X12_feed e1 e2 e3 S1 = some (r, S2) ∧ Inv S2
def OK_3 (Inv : HS → Prop) (S : HS) : Prop := ∃ (r : Int) (S1 S2 : HS), M_X11_draw S = some (r, S1) ∧ WR shF S1 ∧ M_X12_draw S1 = some (r, S2) ∧ Inv S2
def OK_4 (Inv : HS → Prop) (S : HS) : Prop := ∃ (r : Int) (S1 S2 : HS), M_X11_takeBack S = some (r, S1) ∧ WR shF S1 ∧ M_X12_takeBack S1 = some (r, S2) ∧ Inv S2
def OK_5 (Inv : HS → Prop) (S : HS) : Prop := ∀ q1 q2 : Int, rng q1 → rng q2 → ∃ (r : Int) (S1 S2 : HS), M_X11_region q1 q2 S = some (r, S1) ∧ WR shF S1 ∧ M_X12_region q1 q2 S1 = some (r, S2) ∧ Inv S2
def OK_6 (Inv : HS → Prop) (S : HS) : Prop := ∀ q1 q2 : Int, rng q1 → rng q2 → ∃ (r : Int) (S1 S2 : HS), M_X11_taken q1 q2 S = some (r, S1) ∧ WR shF S1 ∧ M_X12_taken q1 q2 S1 = some (r, S2) ∧ Inv S2
def OK_7 (Inv : HS → Prop) (S : HS) : Prop := ∀ q1 q2 q3 : Int, rng q1 → rng q2 → rng q3 → ∃ (r : Int) (S1 S2 : HS), M_X11_side q1 q2 q3 S = some (r, S1) ∧ WR shF S1 ∧ M_X12_side q1 q2 q3 S1 = some (r, S2) ∧ Inv S2
def OK_8 (Inv : HS → Prop) (S : HS) : Prop := ∀ q1 q2 : Int, rng q1 → rng q2 → ∃ (r : Int) (S1 S2 : HS), M_X11_row q1 q2 S = some (r, S1) ∧ WR shF S1 ∧ M_X12_row q1 q2 S1 = some (r, S2) ∧ Inv S2
def OK_9 (Inv : HS → Prop) (S : HS) : Prop := ∀ q1 q2 q3 : Int, rng q1 → rng q2 → rng q3 → ∃ (r b : Int) (S0 S2 S3 : HS), M_X11_strand kTT q1 q2 q3 S = some (r, S0) ∧ WR shF (zHS r S0) ∧ M_X12_strand q1 q2 q3 (zHS r S0) = some (b, S2) ∧ M_X12_thrown S2 = some (zHk r, S3) ∧ (r ≠ zT → S3 94 0 = b) ∧ Inv S3
def OK_10 (Inv : HS → Prop) (S : HS) : Prop := ∀ q1 q2 q3 q4 : Int, rng q1 → rng q2 → rng q3 → rng q4 → ∃ (r : Int) (S1 S2 : HS), M_X11_added q1 q2 q3 q4 S = some (r, S1) ∧ WR shF S1 ∧ M_X12_added q1 q2 q3 q4 S1 = some (r, S2) ∧ Inv S2
def OK_11 (Inv : HS → Prop) (S : HS) : Prop := ∀ q1 : Int, rng q1 → ∃ (r : Int) (S1 S2 : HS), M_X11_pull q1 S = some (r, S1) ∧ WR shF S1 ∧ M_X12_pull q1 S1 = some (r, S2) ∧ Inv S2
def OK_12 (Inv : HS → Prop) (S : HS) : Prop := ∀ q1 : Int, rng q1 → ∃ (r : Int) (S1 S2 : HS), M_X11_even q1 S = some (r, S1) ∧ WR shF S1 ∧ M_X12_even q1 S1 = some (r, S2) ∧ Inv S2
def OK_13 (Inv : HS → Prop) (S : HS) : Prop := ∀ q1 : Int, rng q1 → ∃ (r : Int) (S1 S2 : HS), M_X11_hangs q1 S = some (r, S1) ∧ WR shF S1 ∧ M_X12_hangs q1 S1 = some (r, S2) ∧ Inv S2
def OK_14 (Inv : HS → Prop) (S : HS) : Prop := ∀ q1 q2 q3 : Int, rng q1 → rng q2 → rng q3 → ∃ (r : Int) (S1 S2 : HS), M_X11_join q1 q2 q3 S = some (r, S1) ∧ WR shF S1 ∧ M_X12_join q1 q2 q3 S1 = some (r, S2) ∧ Inv S2
def OK_15 (Inv : HS → Prop) (S : HS) : Prop := ∀ q1 q2 q3 : Int, rng q1 → rng q2 → rng q3 → ∃ (r b : Int) (S0 S2 S3 : HS), M_X11_look kTT q1 q2 q3 S = some (r, S0) ∧ WR shF (zHS r S0) ∧ M_X12_look q1 q2 q3 (zHS r S0) = some (b, S2) ∧ M_X12_thrown S2 = some (zHk r, S3) ∧ (r ≠ zT → S3 94 0 = b) ∧ Inv S3
def OK_16 (Inv : HS → Prop) (S : HS) : Prop := ∀ q1 : Int, rng q1 → ∃ (r : Int) (S1 S2 : HS), M_X11_work q1 S = some (r, S1) ∧ WR shF S1 ∧ M_X12_work q1 S1 = some (r, S2) ∧ Inv S2
def OK_17 (Inv : HS → Prop) (S : HS) : Prop := ∀ q1 q2 q3 : Int, rng q1 → rng q2 → rng q3 → ∃ (r : Int) (S1 S2 : HS), M_X11_hands q1 q2 q3 S = some (r, S1) ∧ WR shF S1 ∧ M_X12_hands q1 q2 q3 S1 = some (r, S2) ∧ Inv S2
def OK_18 (Inv : HS → Prop) (S : HS) : Prop := ∀ q1 : Int, rng q1 → ∃ (r : Int) (S1 S2 : HS), M_X11_plan q1 S = some (r, S1) ∧ WR shF S1 ∧ M_X12_plan q1 S1 = some (r, S2) ∧ Inv S2
def OK_19 (Inv : HS → Prop) (S : HS) : Prop := ∀ q1 : Int, rng q1 → ∃ (r : Int) (S1 S2 : HS), M_X11_planned q1 S = some (r, S1) ∧ WR shF S1 ∧ M_X12_planned q1 S1 = some (r, S2) ∧ Inv S2
def OK_20 (Inv : HS → Prop) (S : HS) : Prop := ∃ (r : Int) (S1 S2 : HS), M_X11_done S = some (r, S1) ∧ WR shF S1 ∧ M_X12_done S1 = some (r, S2) ∧ Inv S2
def OK_21 (Inv : HS → Prop) (S : HS) : Prop := ∀ q1 : Int, rng q1 → ∃ (r : Int) (S1 S2 : HS), M_X11_weeks q1 S = some (r, S1) ∧ WR shF S1 ∧ M_X12_weeks q1 S1 = some (r, S2) ∧ Inv S2
def OK_22 (Inv : HS → Prop) (S : HS) : Prop := ∀ q1 : Int, rng q1 → ∃ (r : Int) (S1 S2 : HS), M_X11_holds q1 S = some (r, S1) ∧ WR shF S1 ∧ M_X12_holds q1 S1 = some (r, S2) ∧ Inv S2
def OK_23 (Inv : HS → Prop) (S : HS) : Prop := ∀ q1 : Int, rng q1 → ∃ (r : Int) (S1 S2 : HS), M_X11_isOut q1 S = some (r, S1) ∧ WR shF S1 ∧ M_X12_isOut q1 S1 = some (r, S2) ∧ Inv S2
def OK_24 (Inv : HS → Prop) (S : HS) : Prop := ∀ q1 : Int, rng q1 → ∃ (r : Int) (S1 S2 : HS), M_X11_redo q1 S = some (r, S1) ∧ WR shF S1 ∧ M_X12_redo q1 S1 = some (r, S2) ∧ Inv S2
def OK_25 (Inv : HS → Prop) (S : HS) : Prop := ∀ q1 : Int, rng q1 → ∃ (r : Int) (S1 S2 : HS), M_X11_count q1 S = some (r, S1) ∧ WR shF S1 ∧ M_X12_count q1 S1 = some (r, S2) ∧ Inv S2
def LawOK (Inv : HS → Prop) (S : HS) : Prop := OK_0 Inv S ∧ OK_1 Inv S ∧ OK_2 Inv S ∧ OK_3 Inv S ∧ OK_4 Inv S ∧ OK_5 Inv S ∧ OK_6 Inv S ∧ OK_7 Inv S ∧ OK_8 Inv S ∧ OK_9 Inv S ∧ OK_10 Inv S ∧ OK_11 Inv S ∧ OK_12 Inv S ∧ OK_13 Inv S ∧ OK_14 Inv S ∧ OK_15 Inv S ∧ OK_16 Inv S ∧ OK_17 Inv S ∧ OK_18 Inv S ∧ OK_19 Inv S ∧ OK_20 Inv S ∧ OK_21 Inv S ∧ OK_22 Inv S ∧ OK_23 Inv S ∧ OK_24 Inv S ∧ OK_25 Inv S
set_option maxHeartbeats 8000000 in
theorem law_loop {Inv : HS → Prop} (hIW : ∀ S, Inv S → WR shF S) (hIC : ∀ S, Inv S → LawOK Inv S) (hN : zN z 7) (hA : zAl z) (hCe : ∀ a b : Nat, a ≤ 100000 → b ≤ 1000000 → zCe z a b) (hfl : zFl z) (hs : zScr z (ad 999) L xs) (hLb : L ≤ 3584) (hEnd : ∀ (kc ks : Nat) (S : HS) (l : List (Nat × AV)), kc ≤ 100000 → ks ≤ 1000000 → zA (zU z shF ad kc ks) 1181 l [aI 1] S) : ∀ (n : Nat) (i : Int) (S : HS) (kc ks : Nat), 0 ≤ i → i ≤ 3600 → (L : Int) - i ≤ n → kc ≤ 100 + i.toNat → ks ≤ 40000 + 6 * i.toNat → zO (zU z shF ad kc ks) cL_law RL 60 shF → Inv S → zA (zU z shF ad kc ks) 23 [(0, aR 999), (1, aR 0), (2, aR 51), (3, aR 94), (4, aI i)] [] S := by
  intro n
  induction n with
  | zero =>
    intro i S kc ks h0 hi9 hm hkc hks hz hI
    have ri : rng i := by unfold rng; omega
    have rL : rng ((L : Int) - 7) := by unfold rng; omega
    refine s_iload 4 hz dL_law_23 rfl ?_
    refine s_aload_n 0 hz dL_law_25 rfl ?_
    refine s_slen9 hz hs dL_law_26 ?_
    refine s_bipush hz dL_law_27 (by decide +kernel) ?_
    refine s_isub hz dL_law_29 ?_
    refine s_icmp_gt 1180 hz ri rL dL_law_30 rfl (fun c => ?_) (fun c => absurd (by omega) c)
    refine s_iconst hz dL_law_1180 ?_
    exact hEnd kc ks S _ (by omega) (by omega)
  | succ n ih =>
    intro i S kc ks h0 hi9 hm hkc hks hz hI
    have ri : rng i := by unfold rng; omega
    have rL : rng ((L : Int) - 7) := by unfold rng; omega
    refine s_iload 4 hz dL_law_23 rfl ?_
    refine s_aload_n 0 hz dL_law_25 rfl ?_
    refine s_slen9 hz hs dL_law_26 ?_
    refine s_bipush hz dL_law_27 (by decide +kernel) ?_
    refine s_isub hz dL_law_29 ?_
    refine s_icmp_gt 1180 hz ri rL dL_law_30 rfl (fun c => ?_) (fun c => ?_)
    · refine s_iconst hz dL_law_1180 ?_
      exact hEnd kc ks S _ (by omega) (by omega)
    have h7 : i + 7 ≤ (L : Int) := by omega
    have hW := hIW S hI
    have hOK := hIC S hI
    have hCe2 : ∀ a b : Nat, a ≤ kc + 1 → b ≤ ks + 6 → zCe z a b := fun a b ha hb => hCe a b (by omega) (by omega)
    have next : ∀ (kc2 ks2 : Nat) (S2 : HS), kc2 ≤ kc + 1 → ks2 ≤ ks + 6 → zO (zU z shF ad kc2 ks2) cL_law RL 60 shF → Inv S2 → zA (zU z shF ad kc2 ks2) 1174 [(0, aR 999), (1, aR 0), (2, aR 51), (3, aR 94), (4, aI i)] [] S2 := by
      intro kc2 ks2 S2 hk2 hs2 hz2 hI2
      refine s_iinc (k0 := 4) (y := i + 7) (l' := [(4, aI (i + 7)), (0, aR 999), (1, aR 0), (2, aR 51), (3, aR 94)]) hz2 (zN_U hN) dL_law_1174 rfl rfl (by decide) rfl ?_
      refine s_goto 23 hz2 dL_law_1177 rfl ?_
      refine s_pick (l' := [(0, aR 999), (1, aR 0), (2, aR 51), (3, aR 94), (4, aI (i + 7))]) [1, 2, 3, 4, 0] rfl ?_
      exact ih (i + 7) S2 kc2 ks2 (by omega) (by omega) (by omega) (by omega) (by omega) hz2 hI2
    have hz6 : zO (zU z shF ad (kc + 1) (ks + 6)) cL_law RL 60 shF := zO_U (n := 0) hz (fun _ _ h => h) (fun _ _ => rfl) (hCe2 _ _ (Nat.le_refl _) (Nat.le_refl _))
    refine s_aload_n 0 hz dL_law_33 rfl ?_
    refine s_iload 4 hz dL_law_34 rfl ?_
    refine s_sld hz hs (by omega) (by omega) dL_law_36 ?_
    refine s_bipush hz dL_law_37 (by decide +kernel) ?_
    refine s_iand hz dL_law_39 ?_
    generalize hx : zand (xs i.toNat).toInt 31 = x
    have rx : rng x := by rw [← hx]; exact zand_r
    obtain ⟨o0, o1, o2, o3, o4, o5, o6, o7, o8, o9, o10, o11, o12, o13, o14, o15, o16, o17, o18, o19, o20, o21, o22, o23, o24, o25⟩ := hOK
    by_cases c0 : x = 0
    · refine s_tab 0 hz c0 (by unfold rng; omega) dL_law_40 (by decide) rfl rfl ?_
      obtain ⟨r, S1, S2, h1, hW1, h2, hI2⟩ := o0 (zq xs i 1) (zq xs i 2) (zq xs i 3) (z_rngI _) (z_rngI _) (z_rngI _)
      exact LC_0 hz hN hA hCe2 hs (by omega) h0 h7 hW h1 hW1 h2 (fun _ => next kc ks S2 (by omega) (by omega) hz hI2)
    by_cases c1 : x = 1
    · refine s_tab 1 hz c1 (by unfold rng; omega) dL_law_40 (by decide) rfl rfl ?_
      obtain ⟨r, S1, S2, h1, hW1, h2, hI2⟩ := o1 (zq xs i 1) (z_rngI _)
      exact LC_1 hz hN hA hCe2 hs (by omega) h0 h7 hW h1 hW1 h2 (fun _ => next kc ks S2 (by omega) (by omega) hz hI2)
    by_cases c2 : x = 2
    · refine s_tab 2 hz c2 (by unfold rng; omega) dL_law_40 (by decide) rfl rfl ?_
      obtain ⟨r, S1, S2, h1, hW1, h2, hI2⟩ := o2 (zlor (zlshl (zq xs i 1) 32) (zland (zq xs i 2) 4294967295)) (zlor (zlshl (zq xs i 3) 32) (zland (zq xs i 4) 4294967295)) (zlor (zlshl (zq xs i 5) 32) (zland (zq xs i 6) 4294967295)) zlor_r zlor_r zlor_r
      exact LC_2 hz hN hA hCe2 hs (by omega) h0 h7 hW h1 hW1 h2 (fun _ => next kc ks S2 (by omega) (by omega) hz hI2)
    by_cases c3 : x = 3
    · refine s_tab 3 hz c3 (by unfold rng; omega) dL_law_40 (by decide) rfl rfl ?_
      obtain ⟨r, S1, S2, h1, hW1, h2, hI2⟩ := o3
      exact LC_3 hz hN hA hCe2 hs (by omega) h0 h7 hW h1 hW1 h2 (fun _ => next kc ks S2 (by omega) (by omega) hz hI2)
    by_cases c4 : x = 4
    · refine s_tab 4 hz c4 (by unfold rng; omega) dL_law_40 (by decide) rfl rfl ?_
      obtain ⟨r, S1, S2, h1, hW1, h2, hI2⟩ := o4
      exact LC_4 hz hN hA hCe2 hs (by omega) h0 h7 hW h1 hW1 h2 (fun _ => next kc ks S2 (by omega) (by omega) hz hI2)
    by_cases c5 : x = 5
    · refine s_tab 5 hz c5 (by unfold rng; omega) dL_law_40 (by decide) rfl rfl ?_
      obtain ⟨r, S1, S2, h1, hW1, h2, hI2⟩ := o5 (zq xs i 1) (zq xs i 2) (z_rngI _) (z_rngI _)
      exact LC_5 hz hN hA hCe2 hs (by omega) h0 h7 hW h1 hW1 h2 (fun _ => next kc ks S2 (by omega) (by omega) hz hI2)
    by_cases c6 : x = 6
    · refine s_tab 6 hz c6 (by unfold rng; omega) dL_law_40 (by decide) rfl rfl ?_
      obtain ⟨r, S1, S2, h1, hW1, h2, hI2⟩ := o6 (zq xs i 1) (zq xs i 2) (z_rngI _) (z_rngI _)
      exact LC_6 hz hN hA hCe2 hs (by omega) h0 h7 hW h1 hW1 h2 (fun _ => next kc ks S2 (by omega) (by omega) hz hI2)
    by_cases c7 : x = 7
    · refine s_tab 7 hz c7 (by unfold rng; omega) dL_law_40 (by decide) rfl rfl ?_
      obtain ⟨r, S1, S2, h1, hW1, h2, hI2⟩ := o7 (zq xs i 1) (zq xs i 2) (zq xs i 3) (z_rngI _) (z_rngI _) (z_rngI _)
      exact LC_7 hz hN hA hCe2 hs (by omega) h0 h7 hW h1 hW1 h2 (fun _ => next kc ks S2 (by omega) (by omega) hz hI2)
    by_cases c8 : x = 8
    · refine s_tab 8 hz c8 (by unfold rng; omega) dL_law_40 (by decide) rfl rfl ?_
      obtain ⟨r, S1, S2, h1, hW1, h2, hI2⟩ := o8 (zq xs i 1) (zq xs i 2) (z_rngI _) (z_rngI _)
      exact LC_8 hz hN hA hCe2 hs (by omega) h0 h7 hW h1 hW1 h2 (fun _ => next kc ks S2 (by omega) (by omega) hz hI2)
    by_cases c9 : x = 9
    · refine s_tab 9 hz c9 (by unfold rng; omega) dL_law_40 (by decide) rfl rfl ?_
      obtain ⟨r, b, S0, S2, S3, h1, hW1, h2, h3, hout, hI3⟩ := o9 (zq xs i 1) (zq xs i 2) (zq xs i 3) (z_rngI _) (z_rngI _) (z_rngI _)
      exact LC_9 hz hN hA hCe2 hfl hs (by omega) h0 h7 hW h1 hW1 h2 h3 hout (fun _ => next (kc + 1) (ks + 6) S3 (by omega) (by omega) hz6 hI3)
    by_cases c10 : x = 10
    · refine s_tab 10 hz c10 (by unfold rng; omega) dL_law_40 (by decide) rfl rfl ?_
      obtain ⟨r, S1, S2, h1, hW1, h2, hI2⟩ := o10 (zq xs i 1) (zq xs i 2) (zq xs i 3) (zq xs i 4) (z_rngI _) (z_rngI _) (z_rngI _) (z_rngI _)
      exact LC_10 hz hN hA hCe2 hs (by omega) h0 h7 hW h1 hW1 h2 (fun _ => next kc ks S2 (by omega) (by omega) hz hI2)
    by_cases c11 : x = 11
    · refine s_tab 11 hz c11 (by unfold rng; omega) dL_law_40 (by decide) rfl rfl ?_
      obtain ⟨r, S1, S2, h1, hW1, h2, hI2⟩ := o11 (zq xs i 1) (z_rngI _)
      exact LC_11 hz hN hA hCe2 hs (by omega) h0 h7 hW h1 hW1 h2 (fun _ => next kc ks S2 (by omega) (by omega) hz hI2)
    by_cases c12 : x = 12
    · refine s_tab 12 hz c12 (by unfold rng; omega) dL_law_40 (by decide) rfl rfl ?_
      obtain ⟨r, S1, S2, h1, hW1, h2, hI2⟩ := o12 (zq xs i 1) (z_rngI _)
      exact LC_12 hz hN hA hCe2 hs (by omega) h0 h7 hW h1 hW1 h2 (fun _ => next kc ks S2 (by omega) (by omega) hz hI2)
    by_cases c13 : x = 13
    · refine s_tab 13 hz c13 (by unfold rng; omega) dL_law_40 (by decide) rfl rfl ?_
      obtain ⟨r, S1, S2, h1, hW1, h2, hI2⟩ := o13 (zq xs i 1) (z_rngI _)
      exact LC_13 hz hN hA hCe2 hs (by omega) h0 h7 hW h1 hW1 h2 (fun _ => next kc ks S2 (by omega) (by omega) hz hI2)
    by_cases c14 : x = 14
    · refine s_tab 14 hz c14 (by unfold rng; omega) dL_law_40 (by decide) rfl rfl ?_
      obtain ⟨r, S1, S2, h1, hW1, h2, hI2⟩ := o14 (zq xs i 1) (zq xs i 2) (zq xs i 3) (z_rngI _) (z_rngI _) (z_rngI _)
      exact LC_14 hz hN hA hCe2 hs (by omega) h0 h7 hW h1 hW1 h2 (fun _ => next kc ks S2 (by omega) (by omega) hz hI2)
    by_cases c15 : x = 15
    · refine s_tab 15 hz c15 (by unfold rng; omega) dL_law_40 (by decide) rfl rfl ?_
      obtain ⟨r, b, S0, S2, S3, h1, hW1, h2, h3, hout, hI3⟩ := o15 (zq xs i 1) (zq xs i 2) (zq xs i 3) (z_rngI _) (z_rngI _) (z_rngI _)
      exact LC_15 hz hN hA hCe2 hfl hs (by omega) h0 h7 hW h1 hW1 h2 h3 hout (fun _ => next (kc + 1) (ks + 6) S3 (by omega) (by omega) hz6 hI3)
    by_cases c16 : x = 16
    · refine s_tab 16 hz c16 (by unfold rng; omega) dL_law_40 (by decide) rfl rfl ?_
      obtain ⟨r, S1, S2, h1, hW1, h2, hI2⟩ := o16 (zq xs i 1) (z_rngI _)
      exact LC_16 hz hN hA hCe2 hs (by omega) h0 h7 hW h1 hW1 h2 (fun _ => next kc ks S2 (by omega) (by omega) hz hI2)
    by_cases c17 : x = 17
    · refine s_tab 17 hz c17 (by unfold rng; omega) dL_law_40 (by decide) rfl rfl ?_
      obtain ⟨r, S1, S2, h1, hW1, h2, hI2⟩ := o17 (zq xs i 1) (zq xs i 2) (zq xs i 3) (z_rngI _) (z_rngI _) (z_rngI _)
      exact LC_17 hz hN hA hCe2 hs (by omega) h0 h7 hW h1 hW1 h2 (fun _ => next kc ks S2 (by omega) (by omega) hz hI2)
    by_cases c18 : x = 18
    · refine s_tab 18 hz c18 (by unfold rng; omega) dL_law_40 (by decide) rfl rfl ?_
      obtain ⟨r, S1, S2, h1, hW1, h2, hI2⟩ := o18 (zq xs i 1) (z_rngI _)
      exact LC_18 hz hN hA hCe2 hs (by omega) h0 h7 hW h1 hW1 h2 (fun _ => next kc ks S2 (by omega) (by omega) hz hI2)
    by_cases c19 : x = 19
    · refine s_tab 19 hz c19 (by unfold rng; omega) dL_law_40 (by decide) rfl rfl ?_
      obtain ⟨r, S1, S2, h1, hW1, h2, hI2⟩ := o19 (zq xs i 1) (z_rngI _)
      exact LC_19 hz hN hA hCe2 hs (by omega) h0 h7 hW h1 hW1 h2 (fun _ => next kc ks S2 (by omega) (by omega) hz hI2)
    by_cases c20 : x = 20
    · refine s_tab 20 hz c20 (by unfold rng; omega) dL_law_40 (by decide) rfl rfl ?_
      obtain ⟨r, S1, S2, h1, hW1, h2, hI2⟩ := o20
      exact LC_20 hz hN hA hCe2 hs (by omega) h0 h7 hW h1 hW1 h2 (fun _ => next kc ks S2 (by omega) (by omega) hz hI2)
    by_cases c21 : x = 21
    · refine s_tab 21 hz c21 (by unfold rng; omega) dL_law_40 (by decide) rfl rfl ?_
      obtain ⟨r, S1, S2, h1, hW1, h2, hI2⟩ := o21 (zq xs i 1) (z_rngI _)
      exact LC_21 hz hN hA hCe2 hs (by omega) h0 h7 hW h1 hW1 h2 (fun _ => next kc ks S2 (by omega) (by omega) hz hI2)
    by_cases c22 : x = 22
    · refine s_tab 22 hz c22 (by unfold rng; omega) dL_law_40 (by decide) rfl rfl ?_
      obtain ⟨r, S1, S2, h1, hW1, h2, hI2⟩ := o22 (zq xs i 1) (z_rngI _)
      exact LC_22 hz hN hA hCe2 hs (by omega) h0 h7 hW h1 hW1 h2 (fun _ => next kc ks S2 (by omega) (by omega) hz hI2)
    by_cases c23 : x = 23
    · refine s_tab 23 hz c23 (by unfold rng; omega) dL_law_40 (by decide) rfl rfl ?_
      obtain ⟨r, S1, S2, h1, hW1, h2, hI2⟩ := o23 (zq xs i 1) (z_rngI _)
      exact LC_23 hz hN hA hCe2 hs (by omega) h0 h7 hW h1 hW1 h2 (fun _ => next kc ks S2 (by omega) (by omega) hz hI2)
    by_cases c24 : x = 24
    · refine s_tab 24 hz c24 (by unfold rng; omega) dL_law_40 (by decide) rfl rfl ?_
      obtain ⟨r, S1, S2, h1, hW1, h2, hI2⟩ := o24 (zq xs i 1) (z_rngI _)
      exact LC_24 hz hN hA hCe2 hs (by omega) h0 h7 hW h1 hW1 h2 (fun _ => next kc ks S2 (by omega) (by omega) hz hI2)
    by_cases c25 : x = 25
    · refine s_tab 25 hz c25 (by unfold rng; omega) dL_law_40 (by decide) rfl rfl ?_
      obtain ⟨r, S1, S2, h1, hW1, h2, hI2⟩ := o25 (zq xs i 1) (z_rngI _)
      exact LC_25 hz hN hA hCe2 hs (by omega) h0 h7 hW h1 hW1 h2 (fun _ => next kc ks S2 (by omega) (by omega) hz hI2)
    refine s_tabO 1174 hz rx dL_law_40 (by omega) rfl ?_
    exact next kc ks S (by omega) (by omega) hz hI
end ZLAW
