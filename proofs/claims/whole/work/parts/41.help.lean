def zHk (r : Int) : Int := if r = zT then 1 else 0
def zHS (r : Int) (S : HS) : HS := if r = zT then S else up S 94 0 r
theorem shX_in {k : Nat} {q : SC} (hk : shX[k]? = some q) : shF[k]? = some q := by
  unfold shF
  rw [List.getElem?_append_left (List.getElem?_eq_some_iff.mp hk).1]
  exact hk
theorem WR_X {S : HS} (h : WR shF S) : WR shX S := fun k q hk i => h k q (shX_in hk) i
theorem zMet_ofWH {l : Launch} {y : MethodName} {ws ws' : List Cond} {rm : Room} {Pc : Array Value → State → Prop} {Qc : Array Value → State → Outcome → State → Prop} {mc ms : Nat} {free : Addr → Prop} {cc : ByteArray} {maxL : Nat} {ret : Option FieldType} {hh : List (Nat × Nat × Nat × Nat)}
    (hy : plainName y.cls = true) (hw : ws = Cond.codeWith y cc maxL ret hh :: ws')
    (body : ∀ p e s m args below meth c s₁, BodyLoose p l y (headSpec ws rm) cc maxL ret e s m args below meth c s₁ → c.maxLocals = maxL → Pc args s →
      W p l e (headSpec ws rm).room s m args below meth c s.heap [] 0 0 (MQ below Qc args s mc ms free) (entryFrame m args maxL)) : Met l y ws rm Pc Qc mc ms free := by
  refine MetFree.of_bodyS (code := cc) (maxLocals := maxL) (ret := ret) hy ?_ ?_
  · intro args s m h hn
    obtain ⟨m9, meth, c, hn9, h1, h2, h3, h4, -, h5, h6, -⟩ := Cond.codeWith_spec (atoms_spec (ws := ws) h _ (by rw [hw]; exact List.mem_cons_self))
    cases hn.symm.trans hn9
    exact ⟨meth, c, h1, h2, h3, h4, h5, h6⟩
  · intro p e s m args below meth c s₁ B hml hP _
    have hh0 : s₁.heap = s.heap := by rw [B.state]; rfl
    obtain ⟨t, a1, o, b1, b2, b3⟩ := body p e s m args below meth c s₁ B hml hP s₁ hh0 (Stand.of_body B)
    exact ⟨t, o, a1, b1, b2, ⟨b3.1, b3.2⟩⟩
theorem zm_L_7 : Cond.methodLink RL 7 yX11_strand ∈ Tg := zTg (i := 1235) (by decide +kernel) (by decide +kernel)
theorem zm_L_15 : Cond.methodLink RL 15 yX11_look ∈ Tg := zTg (i := 1307) (by decide +kernel) (by decide +kernel)
theorem VX_strand {a1 a2 a3 : Int} {S S' : HS} {r : Int} (ra1 : rng a1) (ra2 : rng a2) (ra3 : rng a3) (hW : WR shX S) (h : M_X11_strand kTT a1 a2 a3 S = some (r, S')) (lc : Launch) (hfl : lc.stackTraces = false) (σ : List SC) (ad : Nat → Nat) (D : va_G) (cA : FieldType → ClassId) (A : Nat → Prop) (hσ : ∀ (k : Nat) (q : SC), shX[k]? = some q → σ[k]? = some q) : vx_Met lc yX11_strand (Cond.code yX11_strand cX11_strand 5 (some .int) :: Tg) (zIRm 8 1 6) (zIPc σ ad D cA A [aR 0, aI a1, aI a2, aI a3] S) (zQr σ ad D cA A r S') (zXr σ ad D cA A r S') 1 6 A :=
  vx_go (args := [aR 0, aI a1, aI a2, aI a3]) (S := S) rfl (by decide +kernel) (Nat.le_of_ble_eq_true rfl) dX11_strand_26 dX11_strand_29 dX11_strand_30 dX11_strand_33 (by decide) (fun z hz hN hF hk => TW_X11_strand (zO_le hz (by decide)) hN hF hk ra1 ra2 ra3 hW h) lc hfl σ ad D cA A hσ
set_option maxHeartbeats 4000000 in
set_option maxRecDepth 20000 in
theorem TH_strand {a1 a2 a3 : Int} {S S' : HS} {r : Int} (ra1 : rng a1) (ra2 : rng a2) (ra3 : rng a3) (hW : WR shX S) (h : M_X11_strand kTT a1 a2 a3 S = some (r, S')) (lc : Launch) (hfl : lc.stackTraces = false) (σ : List SC) (ad : Nat → Nat) (D : va_G) (cA : FieldType → ClassId) (A : Nat → Prop) (hσ : ∀ (k : Nat) (q : SC), shF[k]? = some q → σ[k]? = some q) : Met lc yL_strand (Cond.codeWith yL_strand cL_strand 6 (some .int) [(0, 12, 15, 13)] :: Tg) (zIRm 10 1 6) (zIPc σ ad D cA A [aR 0, aI a1, aI a2, aI a3, aR 94] S) (va_Qi (fun (v : Int32) (_ : Unit) => v = Int32.ofInt (zHk r)) (fun _ t => va_P D vwCl (conc σ ad cA (zHS r S')) t.heap) A) 1 6 A := by
  refine zMet_ofWH (cc := cL_strand) (maxL := 6) (ret := some .int) (by decide +kernel) rfl ?_
  intro p e s m args' below meth c s₁ B hml hv
  obtain ⟨rfl, hP, hK, hD, hX, hA⟩ := hv
  have hts0 := atoms_spec (ws := Cond.codeWith yL_strand cL_strand 6 (some .int) [(0, 12, 15, 13)] :: Tg) B.pre
  have htab := vx_table (x := yL_strand) B (hts0 _ List.mem_cons_self)
  have hts : ∀ w ∈ Tg, w.before _ s = true := fun w hw => hts0 w (List.mem_cons_of_mem _ hw)
  have hown : s.vm.findClass RL = some m.cls := findClass_of_methodNamed B.named
  have hx := B.exec
  have hb := B.bytes
  have hr := B.returns
  have hlocks := B.notSynchronized
  have hl := lv_entry ([aR 0, aI a1, aI a2, aI a3, aR 94].map (cv ad)) (n := 6) (by rw [lvA_len]; exact Nat.le_of_ble_eq_true rfl)
  rw [lg_entry_eq]
  generalize (lg_sl ([aR 0, aI a1, aI a2, aI a3, aR 94].map (cv ad)) ++ List.replicate (6 - (lg_sl ([aR 0, aI a1, aI a2, aI a3, aR 94].map (cv ad))).length) Slot.unset).toArray = ls at hl ⊢
  rw [lvA_map] at hl
  have hσX : ∀ (k : Nat) (q : SC), shX[k]? = some q → σ[k]? = some q := fun k q hk => hσ k q (shX_in hk)
  have key : ∀ z : Zt, z = (p, lc, e, zIRm 10 1 6, s, m, (([aR 0, aI a1, aI a2, aI a3, aR 94].map (cv ad)).toArray), below, meth, c, 0, 0, MQ below (va_Qi (fun (v : Int32) (_ : Unit) => v = Int32.ofInt (zHk r)) (fun _ t => va_P D vwCl (conc σ ad cA (zHS r S')) t.heap) A) (([aR 0, aI a1, aI a2, aI a3, aR 94].map (cv ad)).toArray) s 1 6 A, σ, ad, D, cA, A) → zA z 0 [(0, aR 0), (1, aI a1), (2, aI a2), (3, aI a3), (4, aR 94)] [] S := by
    intro z hze
    have hz : zO z cL_strand RL 10 shF := by
      rw [hze]
      exact ⟨hx, hb, hown, hts, hK, hσ, hX, Nat.le_refl _, Nat.le_refl _, Nat.zero_le _, Nat.zero_le _⟩
    refine s_aload 4 hz dL_strand_0 rfl ?_
    refine s_iconst hz dL_strand_2 ?_
    refine s_aload_n 0 hz dL_strand_3 rfl ?_
    refine s_iload_n 1 hz dL_strand_4 rfl ?_
    refine s_iload_n 2 hz dL_strand_5 rfl ?_
    refine s_iload_n 3 hz dL_strand_6 rfl ?_
    rw [hze]
    intro H locs ls hv hP hD hS
    obtain ⟨hlk, hini, hcode, hy, hmL⟩ := ml_L_7
    have hlk := zm_L_7
    have hpre : FrameBlind (zIPc σ ad D cA A [aR 0, aI a1, aI a2, aI a3] S) ∧ ∀ U : State, U.heap = H → s.WarmedH U.vm → zIPc σ ad D cA A [aR 0, aI a1, aI a2, aI a3] S (([aR 0, aI a1, aI a2, aI a3].map (cv ad)).toArray) U := by
      refine ⟨fun a U g mk q => ?_, fun U hU hW => ⟨rfl, by rw [hU]; exact hP, va_K.moved hW.alike hK, hD, hX.kept hS.2.1 hU hW, fun q hq => hA q (Nat.le_trans hS.1 (by rw [← hU]; exact hq))⟩⟩
      obtain ⟨q0, qP, qK, qD, qX, qA⟩ := q
      exact ⟨q0, qP, va_K.moved (u := U) (U := U.calling g mk a) (Vm.Alike.refl U.vm) qK, qD, qX.same rfl rfl, qA⟩
    have hG : GoodIn Tg (Cond.code yX11_strand cX11_strand 5 (some .int) :: Tg) := zGood (fun w hw => by
      rcases List.mem_cons.mp hw with rfl | hw
      · exact hcode
      · exact hw)
    refine vx_calli (px := fun _ : Unit => r = zT) (BX := fun E _ t => E = nsE ∧ va_P D vwCl (conc σ ad cA S') t.heap) (AX := A) (vx_runV (C := RX11) (b := ad 0) (As := [.int (Int32.ofInt a1), .int (Int32.ofInt a2), .int (Int32.ofInt a3)]) (rest := [.int (Int32.ofInt 0), .ref (ad 94)]) (Ts := Tg) ⟨hx, hb, rfl, hown, hts⟩ (VX_strand ra1 ra2 ra3 hW h lc hfl σ ad D cA A hσX) ⟨callB_of 3 hts hG rfl rfl rfl (hts _ hini) (hts _ hlk) hy ⟨by decide, by decide⟩, hts _ sv_yX11_strand.1, hts _ sv_yX11_strand.2⟩ ⟨hpre.1, va_recv hK hP (ci := 11) rfl (conc_at (hσX _ _ sx0)), hpre.2⟩ rfl rfl hv.1 rfl (lv_room (Nat.le_of_ble_eq_true rfl)) dL_strand_7 ⟨by decide, by decide⟩) hS (fun q _ h => h) (fun q h => h) (fun q _ h => h) ?_ ?_
    · intro E ce q9 u t H1 locs1 ht hvm hpx hBX hz1 hk1 hS1 hce hcv hcl
      obtain ⟨rfl, hB⟩ := hBX
      rw [ht] at hB
      refine vx_catch hown [] _ [] htab (fun z hz => by cases hz) (by decide +kernel) (by decide +kernel) (hts _ zvx3.2.2) (va_Nw.use (zTn_on zvx4) (hX.2.2.1 _ zvx4)) hce hcv hcl ?_
      show W p lc e _ s m _ below meth c H1 locs1 (0 + 1) (0 + 6) _ (F0 m 15 ls [.ref q9])
      refine lv_astore hx hb dL_strand_15 hv (by rw [hml]; decide) rfl (fun ls hv => ?_)
      refine lv_iconst hx hb dL_strand_17 rfl ?_
      refine W.iret hx hb hr (fun t2 ht2 _ => ⟨⟨_, (), rfl, ?_, ?_⟩, hS1.F ht2⟩) hS1.2.2 dL_strand_18 hlocks
      · show Int32.ofInt 1 = Int32.ofInt (zHk r)
        unfold zHk
        rw [if_pos hpx]
      · show va_P D vwCl (conc σ ad cA (zHS r S')) t2.heap
        unfold zHS
        rw [if_pos hpx, ht2]
        exact hB
    · intro r' u t H1 locs1 ht hvm hpost hB hz1 hk1 hS1
      obtain ⟨hne, rfl, hrr⟩ := hpost
      have hB : va_P D vwCl (conc σ ad cA S') t.heap := hB
      rw [ht] at hB
      have key2 : ∀ z : Zt, z = (p, lc, e, zIRm 10 1 6, s, m, (([aR 0, aI a1, aI a2, aI a3, aR 94].map (cv ad)).toArray), below, meth, c, 0 + 1, 0 + 6, MQ below (va_Qi (fun (v : Int32) (_ : Unit) => v = Int32.ofInt (zHk r)) (fun _ t => va_P D vwCl (conc σ ad cA (zHS r S')) t.heap) A) (([aR 0, aI a1, aI a2, aI a3, aR 94].map (cv ad)).toArray) s 1 6 A, σ, ad, D, cA, A) → zA z 10 [(0, aR 0), (1, aI a1), (2, aI a2), (3, aI a3), (4, aR 94)] [aI r, aI 0, aR 94] S' := by
        intro z hze
        have hz : zO z cL_strand RL 10 shF := by
          rw [hze]
          exact ⟨hx, hb, hown, hts, hK, hσ, hX, Nat.le_refl _, Nat.le_refl _, Nat.le_refl _, Nat.le_refl _⟩
        refine s_i2l hz hrr dL_strand_10 ?_
        refine s_last hz sf94 rfl (by decide) (by decide) dL_strand_11 ?_
        refine s_goto 19 hz dL_strand_12 rfl ?_
        refine s_iconst hz dL_strand_19 ?_
        rw [hze]
        intro H locs ls hv hP hD hS
        refine W.iret hx hb hr (fun t2 ht2 _ => ⟨⟨_, (), rfl, ?_, ?_⟩, hS.F ht2⟩) hS.2.2 dL_strand_20 hlocks
        · show Int32.ofInt 0 = Int32.ofInt (zHk r)
          unfold zHk
          rw [if_neg hne]
        · show va_P D vwCl (conc σ ad cA (zHS r S')) t2.heap
          unfold zHS
          rw [if_neg hne, ht2]
          exact hP
      exact key2 _ rfl H1 locs1 ls hv hB (conc_D hD) hS1
  exact key _ rfl s.heap [] ls (by rw [hml]; exact hl) hP hD va_S.rf
theorem VX_look {a1 a2 a3 : Int} {S S' : HS} {r : Int} (ra1 : rng a1) (ra2 : rng a2) (ra3 : rng a3) (hW : WR shX S) (h : M_X11_look kTT a1 a2 a3 S = some (r, S')) (lc : Launch) (hfl : lc.stackTraces = false) (σ : List SC) (ad : Nat → Nat) (D : va_G) (cA : FieldType → ClassId) (A : Nat → Prop) (hσ : ∀ (k : Nat) (q : SC), shX[k]? = some q → σ[k]? = some q) : vx_Met lc yX11_look (Cond.code yX11_look cX11_look 6 (some .int) :: Tg) (zIRm 8 1 6) (zIPc σ ad D cA A [aR 0, aI a1, aI a2, aI a3] S) (zQr σ ad D cA A r S') (zXr σ ad D cA A r S') 1 6 A :=
  vx_go (args := [aR 0, aI a1, aI a2, aI a3]) (S := S) rfl (by decide +kernel) (Nat.le_of_ble_eq_true rfl) dX11_look_22 dX11_look_25 dX11_look_26 dX11_look_29 (by decide) (fun z hz hN hF hk => TW_X11_look (zO_le hz (by decide)) hN hF hk ra1 ra2 ra3 hW h) lc hfl σ ad D cA A hσ
set_option maxHeartbeats 4000000 in
set_option maxRecDepth 20000 in
theorem TH_look {a1 a2 a3 : Int} {S S' : HS} {r : Int} (ra1 : rng a1) (ra2 : rng a2) (ra3 : rng a3) (hW : WR shX S) (h : M_X11_look kTT a1 a2 a3 S = some (r, S')) (lc : Launch) (hfl : lc.stackTraces = false) (σ : List SC) (ad : Nat → Nat) (D : va_G) (cA : FieldType → ClassId) (A : Nat → Prop) (hσ : ∀ (k : Nat) (q : SC), shF[k]? = some q → σ[k]? = some q) : Met lc yL_look (Cond.codeWith yL_look cL_look 6 (some .int) [(0, 12, 15, 13)] :: Tg) (zIRm 10 1 6) (zIPc σ ad D cA A [aR 0, aI a1, aI a2, aI a3, aR 94] S) (va_Qi (fun (v : Int32) (_ : Unit) => v = Int32.ofInt (zHk r)) (fun _ t => va_P D vwCl (conc σ ad cA (zHS r S')) t.heap) A) 1 6 A := by
  refine zMet_ofWH (cc := cL_look) (maxL := 6) (ret := some .int) (by decide +kernel) rfl ?_
  intro p e s m args' below meth c s₁ B hml hv
  obtain ⟨rfl, hP, hK, hD, hX, hA⟩ := hv
  have hts0 := atoms_spec (ws := Cond.codeWith yL_look cL_look 6 (some .int) [(0, 12, 15, 13)] :: Tg) B.pre
  have htab := vx_table (x := yL_look) B (hts0 _ List.mem_cons_self)
  have hts : ∀ w ∈ Tg, w.before _ s = true := fun w hw => hts0 w (List.mem_cons_of_mem _ hw)
  have hown : s.vm.findClass RL = some m.cls := findClass_of_methodNamed B.named
  have hx := B.exec
  have hb := B.bytes
  have hr := B.returns
  have hlocks := B.notSynchronized
  have hl := lv_entry ([aR 0, aI a1, aI a2, aI a3, aR 94].map (cv ad)) (n := 6) (by rw [lvA_len]; exact Nat.le_of_ble_eq_true rfl)
  rw [lg_entry_eq]
  generalize (lg_sl ([aR 0, aI a1, aI a2, aI a3, aR 94].map (cv ad)) ++ List.replicate (6 - (lg_sl ([aR 0, aI a1, aI a2, aI a3, aR 94].map (cv ad))).length) Slot.unset).toArray = ls at hl ⊢
  rw [lvA_map] at hl
  have hσX : ∀ (k : Nat) (q : SC), shX[k]? = some q → σ[k]? = some q := fun k q hk => hσ k q (shX_in hk)
  have key : ∀ z : Zt, z = (p, lc, e, zIRm 10 1 6, s, m, (([aR 0, aI a1, aI a2, aI a3, aR 94].map (cv ad)).toArray), below, meth, c, 0, 0, MQ below (va_Qi (fun (v : Int32) (_ : Unit) => v = Int32.ofInt (zHk r)) (fun _ t => va_P D vwCl (conc σ ad cA (zHS r S')) t.heap) A) (([aR 0, aI a1, aI a2, aI a3, aR 94].map (cv ad)).toArray) s 1 6 A, σ, ad, D, cA, A) → zA z 0 [(0, aR 0), (1, aI a1), (2, aI a2), (3, aI a3), (4, aR 94)] [] S := by
    intro z hze
    have hz : zO z cL_look RL 10 shF := by
      rw [hze]
      exact ⟨hx, hb, hown, hts, hK, hσ, hX, Nat.le_refl _, Nat.le_refl _, Nat.zero_le _, Nat.zero_le _⟩
    refine s_aload 4 hz dL_look_0 rfl ?_
    refine s_iconst hz dL_look_2 ?_
    refine s_aload_n 0 hz dL_look_3 rfl ?_
    refine s_iload_n 1 hz dL_look_4 rfl ?_
    refine s_iload_n 2 hz dL_look_5 rfl ?_
    refine s_iload_n 3 hz dL_look_6 rfl ?_
    rw [hze]
    intro H locs ls hv hP hD hS
    obtain ⟨hlk, hini, hcode, hy, hmL⟩ := ml_L_15
    have hlk := zm_L_15
    have hpre : FrameBlind (zIPc σ ad D cA A [aR 0, aI a1, aI a2, aI a3] S) ∧ ∀ U : State, U.heap = H → s.WarmedH U.vm → zIPc σ ad D cA A [aR 0, aI a1, aI a2, aI a3] S (([aR 0, aI a1, aI a2, aI a3].map (cv ad)).toArray) U := by
      refine ⟨fun a U g mk q => ?_, fun U hU hW => ⟨rfl, by rw [hU]; exact hP, va_K.moved hW.alike hK, hD, hX.kept hS.2.1 hU hW, fun q hq => hA q (Nat.le_trans hS.1 (by rw [← hU]; exact hq))⟩⟩
      obtain ⟨q0, qP, qK, qD, qX, qA⟩ := q
      exact ⟨q0, qP, va_K.moved (u := U) (U := U.calling g mk a) (Vm.Alike.refl U.vm) qK, qD, qX.same rfl rfl, qA⟩
    have hG : GoodIn Tg (Cond.code yX11_look cX11_look 6 (some .int) :: Tg) := zGood (fun w hw => by
      rcases List.mem_cons.mp hw with rfl | hw
      · exact hcode
      · exact hw)
    refine vx_calli (px := fun _ : Unit => r = zT) (BX := fun E _ t => E = nsE ∧ va_P D vwCl (conc σ ad cA S') t.heap) (AX := A) (vx_runV (C := RX11) (b := ad 0) (As := [.int (Int32.ofInt a1), .int (Int32.ofInt a2), .int (Int32.ofInt a3)]) (rest := [.int (Int32.ofInt 0), .ref (ad 94)]) (Ts := Tg) ⟨hx, hb, rfl, hown, hts⟩ (VX_look ra1 ra2 ra3 hW h lc hfl σ ad D cA A hσX) ⟨callB_of 3 hts hG rfl rfl rfl (hts _ hini) (hts _ hlk) hy ⟨by decide, by decide⟩, hts _ sv_yX11_look.1, hts _ sv_yX11_look.2⟩ ⟨hpre.1, va_recv hK hP (ci := 11) rfl (conc_at (hσX _ _ sx0)), hpre.2⟩ rfl rfl hv.1 rfl (lv_room (Nat.le_of_ble_eq_true rfl)) dL_look_7 ⟨by decide, by decide⟩) hS (fun q _ h => h) (fun q h => h) (fun q _ h => h) ?_ ?_
    · intro E ce q9 u t H1 locs1 ht hvm hpx hBX hz1 hk1 hS1 hce hcv hcl
      obtain ⟨rfl, hB⟩ := hBX
      rw [ht] at hB
      refine vx_catch hown [] _ [] htab (fun z hz => by cases hz) (by decide +kernel) (by decide +kernel) (hts _ zvx3.2.2) (va_Nw.use (zTn_on zvx4) (hX.2.2.1 _ zvx4)) hce hcv hcl ?_
      show W p lc e _ s m _ below meth c H1 locs1 (0 + 1) (0 + 6) _ (F0 m 15 ls [.ref q9])
      refine lv_astore hx hb dL_look_15 hv (by rw [hml]; decide) rfl (fun ls hv => ?_)
      refine lv_iconst hx hb dL_look_17 rfl ?_
      refine W.iret hx hb hr (fun t2 ht2 _ => ⟨⟨_, (), rfl, ?_, ?_⟩, hS1.F ht2⟩) hS1.2.2 dL_look_18 hlocks
      · show Int32.ofInt 1 = Int32.ofInt (zHk r)
        unfold zHk
        rw [if_pos hpx]
      · show va_P D vwCl (conc σ ad cA (zHS r S')) t2.heap
        unfold zHS
        rw [if_pos hpx, ht2]
        exact hB
    · intro r' u t H1 locs1 ht hvm hpost hB hz1 hk1 hS1
      obtain ⟨hne, rfl, hrr⟩ := hpost
      have hB : va_P D vwCl (conc σ ad cA S') t.heap := hB
      rw [ht] at hB
      have key2 : ∀ z : Zt, z = (p, lc, e, zIRm 10 1 6, s, m, (([aR 0, aI a1, aI a2, aI a3, aR 94].map (cv ad)).toArray), below, meth, c, 0 + 1, 0 + 6, MQ below (va_Qi (fun (v : Int32) (_ : Unit) => v = Int32.ofInt (zHk r)) (fun _ t => va_P D vwCl (conc σ ad cA (zHS r S')) t.heap) A) (([aR 0, aI a1, aI a2, aI a3, aR 94].map (cv ad)).toArray) s 1 6 A, σ, ad, D, cA, A) → zA z 10 [(0, aR 0), (1, aI a1), (2, aI a2), (3, aI a3), (4, aR 94)] [aI r, aI 0, aR 94] S' := by
        intro z hze
        have hz : zO z cL_look RL 10 shF := by
          rw [hze]
          exact ⟨hx, hb, hown, hts, hK, hσ, hX, Nat.le_refl _, Nat.le_refl _, Nat.le_refl _, Nat.le_refl _⟩
        refine s_i2l hz hrr dL_look_10 ?_
        refine s_last hz sf94 rfl (by decide) (by decide) dL_look_11 ?_
        refine s_goto 19 hz dL_look_12 rfl ?_
        refine s_iconst hz dL_look_19 ?_
        rw [hze]
        intro H locs ls hv hP hD hS
        refine W.iret hx hb hr (fun t2 ht2 _ => ⟨⟨_, (), rfl, ?_, ?_⟩, hS.F ht2⟩) hS.2.2 dL_look_20 hlocks
        · show Int32.ofInt 0 = Int32.ofInt (zHk r)
          unfold zHk
          rw [if_neg hne]
        · show va_P D vwCl (conc σ ad cA (zHS r S')) t2.heap
          unfold zHS
          rw [if_neg hne, ht2]
          exact hP
      exact key2 _ rfl H1 locs1 ls hv hB (conc_D hD) hS1
  exact key _ rfl s.heap [] ls (by rw [hml]; exact hl) hP hD va_S.rf
