/-! the law from its entry -/
def zTm (i : Nat) : Term := Term.string zTxO (ztxt.getD i (0, "")).1
abbrev zFl0 : List Cond := flatC (Jvm.Cond.and given_1 narrow_1)
theorem zs1 : ∀ i : Nat, i < 8 → Cond.exactly (zTm i) "java/lang/String" ∈ zFl0 := by decide +kernel
theorem zs2 : ∀ i : Nat, i < 8 → Cond.eq (.field (zTm i) "java/lang/String" "coder" "B") (.int 0) ∈ zFl0 := by decide +kernel
theorem zs3 : ∀ i : Nat, i < 8 → Cond.arrayOf (.field (zTm i) "java/lang/String" "value" "[B") .byte ∈ zFl0 := by decide +kernel
theorem zs4 : ∀ i : Nat, i < 8 → Cond.eq (.length (.field (zTm i) "java/lang/String" "value" "[B")) (.int (Int32.ofNat (zlen.getD i 0))) ∈ zFl0 := by decide +kernel
theorem zs5 : ∀ i : Nat, i < 8 → ∀ j : Nat, j < zlen.getD i 0 → Cond.eq (.elem (.field (zTm i) "java/lang/String" "value" "[B") (.int (Int32.ofNat j))) (.int ((zbyt.getD i []).getD j 0)) ∈ zFl0 := by decide +kernel
theorem zs6 : ∀ i : Nat, i < 8 → ∀ j : Nat, j < 8 → i ≠ j → Cond.not (Cond.eq (zTm i) (zTm j)) ∈ zFl0 ∨ Cond.not (Cond.eq (zTm j) (zTm i)) ∈ zFl0 := by decide +kernel
theorem zs7 : ∀ i : Nat, i < 8 → zlen.getD i 0 < 2 ^ 31 := by decide +kernel
theorem zs8 : ∀ q ∈ ztxt, Cond.stringRef zTxO q.1 q.2 ∈ lw_tbl := by decide +kernel
theorem zs9 : Cond.eq (.static "java/lang/String" "COMPACT_STRINGS" "Z") (.int 1) ∈ zFl0 ∧ Cond.isRef (.static "jdk/internal/util/Preconditions" "SIOOBE_FORMATTER" "Ljava/util/function/BiFunction;") ∈ zFl0 ∧ Cond.isRef (.static Bundle.tN "UNASSIGNED_STACK" Bundle.steD) ∈ zFl0 ∧ Cond.isRef (.static Bundle.tN "SUPPRESSED_SENTINEL" Bundle.listD) ∈ zFl0 := by decide +kernel
theorem zs10 : Cond.laysStatic "java/lang/String" "COMPACT_STRINGS" "Z" ∈ lw_tbl ∧ Cond.laysStatic "jdk/internal/util/Preconditions" "SIOOBE_FORMATTER" "Ljava/util/function/BiFunction;" ∈ lw_tbl ∧ Cond.laysStatic Bundle.tN "UNASSIGNED_STACK" Bundle.steD ∈ lw_tbl ∧ Cond.laysStatic Bundle.tN "SUPPRESSED_SENTINEL" Bundle.listD ∈ lw_tbl := by decide +kernel
theorem zs11 : Cond.initialized "java/lang/String" ∈ lw_tbl ∧ Cond.initialized "jdk/internal/util/Preconditions" ∈ lw_tbl ∧ Cond.initialized Bundle.tN ∈ lw_tbl := by decide +kernel
theorem in_0 : Cond.instantiable RX0 10 ∈ Tg := zTg (i := 312) (by decide +kernel) (by decide +kernel)
theorem in_1 : Cond.instantiable RX1 8 ∈ Tg := zTg (i := 349) (by decide +kernel) (by decide +kernel)
theorem in_2 : Cond.instantiable RX2 3 ∈ Tg := zTg (i := 146) (by decide +kernel) (by decide +kernel)
theorem in_3 : Cond.instantiable RX3 5 ∈ Tg := zTg (i := 284) (by decide +kernel) (by decide +kernel)
theorem in_4 : Cond.instantiable RX4 9 ∈ Tg := zTg (i := 438) (by decide +kernel) (by decide +kernel)
theorem in_5 : Cond.instantiable RX5 4 ∈ Tg := zTg (i := 169) (by decide +kernel) (by decide +kernel)
theorem in_6 : Cond.instantiable RX6 13 ∈ Tg := zTg (i := 191) (by decide +kernel) (by decide +kernel)
theorem in_7 : Cond.instantiable RX7 6 ∈ Tg := zTg (i := 412) (by decide +kernel) (by decide +kernel)
theorem in_8 : Cond.instantiable RX8 11 ∈ Tg := zTg (i := 242) (by decide +kernel) (by decide +kernel)
theorem in_9 : Cond.instantiable RX9 6 ∈ Tg := zTg (i := 382) (by decide +kernel) (by decide +kernel)
theorem in_10 : Cond.instantiable RX10 9 ∈ Tg := zTg (i := 444) (by decide +kernel) (by decide +kernel)
theorem in_11 : Cond.instantiable RX11 10 ∈ Tg := zTg (i := 138) (by decide +kernel) (by decide +kernel)
theorem in_12 : Cond.instantiable RX12 62 ∈ Tg := zTg (i := 1323) (by decide +kernel) (by decide +kernel)
theorem nw_L_8 : Cond.classLink RL 8 RX11 ∈ Tg ∧ Cond.instantiable RX11 10 ∈ Tg ∧ Cond.initialized RX11 ∈ Tg := ⟨zTg (i := 137) (by decide +kernel) (by decide +kernel), in_11, zTg (i := 113) (by decide +kernel) (by decide +kernel)⟩
theorem nw_L_19 : Cond.classLink RL 19 RX12 ∈ Tg ∧ Cond.instantiable RX12 62 ∈ Tg ∧ Cond.initialized RX12 ∈ Tg := ⟨zTg (i := 1325) (by decide +kernel) (by decide +kernel), in_12, zTg (i := 126) (by decide +kernel) (by decide +kernel)⟩
theorem ml_L_18 : zM RL 18 yX11_init cX11_init 1 none 0 := ⟨Or.inl (zTg (i := 139) (by decide +kernel) (by decide +kernel)), zTg (i := 113) (by decide +kernel) (by decide +kernel), zTg (i := 141) (by decide +kernel) (by decide +kernel), ⟨by decide +kernel, by decide +kernel, by decide +kernel⟩, by decide⟩
theorem im_yX11_init : Cond.instanceMethod yX11_init ∈ Tg := zTg (i := 140) (by decide +kernel) (by decide +kernel)
theorem ml_L_21 : zM RL 21 yX12_init cX12_init 2 none 0 := ⟨Or.inl (zTg (i := 1326) (by decide +kernel) (by decide +kernel)), zTg (i := 126) (by decide +kernel) (by decide +kernel), zTg (i := 1328) (by decide +kernel) (by decide +kernel), ⟨by decide +kernel, by decide +kernel, by decide +kernel⟩, by decide⟩
theorem im_yX12_init : Cond.instanceMethod yX12_init ∈ Tg := zTg (i := 1327) (by decide +kernel) (by decide +kernel)
theorem zarr {s : State} {args : Array Value} {t : FieldType} (h : (Cond.arrayClass t).before args s = true) (ht : t = .int ∨ t = .long ∨ t = .boolean ∨ t = .char) : ∃ c : ClassId, ArrOfT s c t ∧ va_RA s c t := by
  obtain ⟨cA, kA, comp, h1, h2, h3⟩ := Cond.arrayClass_spec h
  refine ⟨cA, fun n z => ⟨fun k h => (by cases h), kA, h2, comp, h3⟩, ?_⟩
  rcases ht with rfl | rfl | rfl | rfl <;> exact h1
set_option maxHeartbeats 8000000 in
set_option maxRecDepth 100000 in
theorem whole_start_of {Inv : HS → Prop} (hIW : ∀ S, Inv S → WR shF S) (hIC : ∀ S, Inv S → LawOK Inv S) {S1 : HS} {r0 : Int} (hset : M_X8_settle hs14 = some (r0, S1)) (hz0 : ∀ (k : Nat) (i : Int), 51 ≤ k → S1 k i = 0) (hI0 : Inv (hs25 S1)) {p : Program} {e : Env} {s : State} {m : MethodId} {below : List Frame} {meth : Method} {c : Code} (l : Launch) (hflags : l.flags = flags0) {b L : Nat} {xs : Nat → Int32} (hL : L ≤ 3584) (C0 : lw_At p s m meth c b L xs) : W p l e room_1 s m #[Value.ref b] below meth c s.heap [] 0 0 (lw_Z below #[Value.ref b] s) (entryFrame m ([Value.ref b] : List Value).toArray 7) := by
  obtain ⟨hx, hb, hr, hml, hown, hts0, hX, hbl, hlocks, hgv⟩ := id C0
  have hA : ∀ a : Nat, a < s.heap.size → ¬ (fun q : Nat => s.heap.size ≤ q) a := fun a h => Nat.not_le.mpr h
  have hs := flat_of_before _ hgv
  have hts : ∀ w ∈ Tg, w.before #[Value.ref b] s = true := fun w hw => hts0 w (List.mem_filter.mp hw).1
  obtain ⟨adK, adV, hvk, hev⟩ := vk_Sof (A := fun q : Nat => s.heap.size ≤ q) (tm := zTm) zs7 (fun i hi => hs _ (zs1 i hi)) (fun i hi => hs _ (zs2 i hi)) (fun i hi => hs _ (zs3 i hi)) (fun i hi => hs _ (zs4 i hi)) (fun i hi j hj => hs _ (zs5 i hi j hj)) (fun i j hi hj hij => (zs6 i hi j hj hij).elim (fun h => Or.inl (hs _ h)) (fun h => Or.inr (hs _ h))) hA
  obtain ⟨ad, had9, hadK, hadV⟩ : ∃ ad : Nat → Nat, ad 999 = b ∧ (∀ i, i < 100 → ad (1000 + i) = adK i) ∧ (∀ i, ad (1100 + i) = adV i) := by
    refine ⟨fun j => if j < 1000 then b else if j < 1100 then adK (j - 1000) else adV (j - 1100), rfl, fun i hi => ?_, fun i => ?_⟩
    · show (if 1000 + i < 1000 then b else if 1000 + i < 1100 then adK (1000 + i - 1000) else adV (1000 + i - 1100)) = adK i
      rw [if_neg (by omega), if_pos (by omega), Nat.add_sub_cancel_left]
    · show (if 1100 + i < 1000 then b else if 1100 + i < 1100 then adK (1100 + i - 1000) else adV (1100 + i - 1100)) = adV i
      rw [if_neg (by omega), if_neg (by omega), Nat.add_sub_cancel_left]
  have hZX : zX ad (fun q : Nat => s.heap.size ≤ q) s s.heap := by
    refine ⟨?_, ?_, fun w hw => va_Nw.of (zTn_on hw) (hts0 w (List.mem_filter.mp hw).1), ?_⟩
    · have e2 : (fun i => ad (1100 + i)) = adV := funext hadV
      rw [e2]
      refine ⟨fun i hi => ?_, fun i j hi hj e => ?_⟩
      · have e1 : (fun i => ad (1000 + i)) i = adK i := hadK i (by omega)
        rw [e1]
        exact hvk.1 i hi
      · have e1 : ad (1000 + i) = ad (1000 + j) := e
        rw [hadK i (by omega), hadK j (by omega)] at e1
        exact hvk.2 i j hi hj e1
    · intro i q hq
      have hi : i < 8 := (List.getElem?_eq_some_iff.mp hq).1
      rw [hadK i (by omega)]
      refine vk_R.of (hts0 _ (zs8 q (List.mem_of_getElem? hq))) ?_
      have h1 := hev i hi
      unfold zTm at h1
      rw [List.getD_eq_getElem?_getD, hq] at h1
      exact h1
    · exact ⟨va_Zof (hts0 _ zs10.1) (hts0 _ zs11.1) (va_eqt (hs _ zs9.1)) hA, va_Zqof (hts0 _ zs10.2.1) (hts0 _ zs11.2.1) (hs _ zs9.2.1) hA, vx_Zqof (hts0 _ zs10.2.2.1) (hts0 _ zs11.2.2) (hs _ zs9.2.2.1) hA, vx_Zqof (hts0 _ zs10.2.2.2) (hts0 _ zs11.2.2) (hs _ zs9.2.2.2) hA⟩
  have hcl : ∀ (k : Nat) (q : vw_C), vwCl[k]? = some q → ∃ (c : ClassId) (iS : Nat → Nat), u_Kn s q.1 q.2.1 q.2.2 c iS := by
    intro k q hq
    match k, hq with
    | 0, hq => cases hq; exact u_known (C := RX0) (T := TX0) (N := 10) (n := 10) hts zu0 (hts _ in_0)
    | 1, hq => cases hq; exact u_known (C := RX1) (T := TX1) (N := 8) (n := 8) hts zu1 (hts _ in_1)
    | 2, hq => cases hq; exact u_known (C := RX2) (T := TX2) (N := 3) (n := 3) hts zu2 (hts _ in_2)
    | 3, hq => cases hq; exact u_known (C := RX3) (T := TX3) (N := 5) (n := 5) hts zu3 (hts _ in_3)
    | 4, hq => cases hq; exact u_known (C := RX4) (T := TX4) (N := 9) (n := 9) hts zu4 (hts _ in_4)
    | 5, hq => cases hq; exact u_known (C := RX5) (T := TX5) (N := 4) (n := 4) hts zu5 (hts _ in_5)
    | 6, hq => cases hq; exact u_known (C := RX6) (T := TX6) (N := 13) (n := 13) hts zu6 (hts _ in_6)
    | 7, hq => cases hq; exact u_known (C := RX7) (T := TX7) (N := 6) (n := 6) hts zu7 (hts _ in_7)
    | 8, hq => cases hq; exact u_known (C := RX8) (T := TX8) (N := 11) (n := 11) hts zu8 (hts _ in_8)
    | 9, hq => cases hq; exact u_known (C := RX9) (T := TX9) (N := 6) (n := 6) hts zu9 (hts _ in_9)
    | 10, hq => cases hq; exact u_known (C := RX10) (T := TX10) (N := 9) (n := 9) hts zu10 (hts _ in_10)
    | 11, hq => cases hq; exact u_known (C := RX11) (T := TX11) (N := 10) (n := 10) hts zu11 (hts _ in_11)
    | 12, hq => cases hq; exact u_known (C := RX12) (T := TX12) (N := 62) (n := 62) hts zu12 (hts _ in_12)
    | n + 13, hq => simp [vwCl] at hq
  have hcl2 : ∀ k : Nat, ∃ y : ClassId × (Nat → Nat), ∀ q : vw_C, vwCl[k]? = some q → u_Kn s q.1 q.2.1 q.2.2 y.1 y.2 := by
    intro k
    cases hq : vwCl[k]? with
    | none =>
      obtain ⟨c, iS, -⟩ := hcl 0 _ rfl
      exact ⟨(c, iS), fun q h => by cases h⟩
    | some q =>
      obtain ⟨c, iS, h⟩ := hcl k q hq
      exact ⟨(c, iS), fun q2 h2 => by cases h2; exact h⟩
  obtain ⟨fD, hfD⟩ := Classical.axiomOfChoice hcl2
  have har : ∀ t : FieldType, ∃ c : ClassId, (t = .int ∨ t = .long ∨ t = .boolean ∨ t = .char) → ArrOfT s c t ∧ va_RA s c t := by
    intro t
    by_cases ht : t = .int ∨ t = .long ∨ t = .boolean ∨ t = .char
    · have h1 : (Cond.arrayClass t).before #[Value.ref b] s = true := by
        rcases ht with rfl | rfl | rfl | rfl
        · exact hts _ ac_int
        · exact hts _ ac_long
        · exact hts _ ac_boolean
        · exact hts _ ac_char
      obtain ⟨c, h⟩ := zarr h1 ht
      exact ⟨c, fun _ => h⟩
    · obtain ⟨c, -⟩ := zarr (hts _ ac_int) (Or.inl rfl)
      exact ⟨c, fun h => absurd h ht⟩
  obtain ⟨cA, hcA⟩ := Classical.axiomOfChoice har
  have hK : va_K (fun k => (fD k).1, fun k => (fD k).2) vwCl (zTy cA) s := by
    refine ⟨fun k q hq => hfD k q hq, fun k q hq => ?_⟩
    match k, hq with
    | 0, hq => cases hq; exact hcA _ (Or.inl rfl)
    | 1, hq => cases hq; exact hcA _ (Or.inr (Or.inl rfl))
    | 2, hq => cases hq; exact hcA _ (Or.inr (Or.inr (Or.inl rfl)))
    | 3, hq => cases hq; exact hcA _ (Or.inr (Or.inr (Or.inr rfl)))
    | n + 4, hq => simp [zTy] at hq
  have hfl : l.stackTraces = false := by
    unfold Launch.stackTraces
    rw [hflags]
    decide +kernel
  have hl := lv_entry ([.ref b]) (n := 7) (Nat.le_of_ble_eq_true rfl)
  rw [lg_entry_eq]
  generalize (lg_sl ([.ref b]) ++ List.replicate (7 - (lg_sl ([.ref b])).length) Slot.unset).toArray = ls at hl ⊢
  have hl : lv_has ls 7 [(0, .ref (ad 999))] := by rw [had9]; exact hl
  have key : ∀ z : Zt, z = (p, l, e, room_1, s, m, #[Value.ref b], below, meth, c, 0, 0, lw_Z below #[Value.ref b] s, [], ad, (fun k => (fD k).1, fun k => (fD k).2), cA, (fun q : Nat => s.heap.size ≤ q)) → zA (zU z [] ad 0 0) 0 [(0, aR 999)] [] hs0 := by
    intro z hze
    have hCe : ∀ a b : Nat, a ≤ 100000 → b ≤ 1000000 → zCe z a b := by
      rw [hze]
      intro a b ha hb
      exact ⟨Nat.le_trans ha (Nat.le_of_ble_eq_true rfl), Nat.le_trans hb (Nat.le_of_ble_eq_true rfl)⟩
    have hAl : zAl z := by
      rw [hze]
      exact fun q h => h
    have hN : zN z 7 := by rw [hze]; exact hml
    have hfz : zFl z := by rw [hze]; exact hfl
    have hz : zO (zU z [] ad 0 0) cL_law RL 60 [] := by
      rw [hze]
      exact ⟨hx, hb, hown, hts, hK, fun _ _ h => h, hZX, Nat.le_of_ble_eq_true rfl, Nat.le_of_ble_eq_true rfl, Nat.zero_le _, Nat.zero_le _⟩
    refine s_new (σ' := sg1) (k := 0) (ci := 11) (C := RX11) (T := TX11) (n := 10) [some 998, some 998, some 998, some 998, some 998, some 998, some 998, some 998, some 998, some 998] hz hAl (hCe _ _ (by decide) (by decide)) rfl nw_L_8 (by decide +kernel) rfl (by decide) (fun i => rfl) (by decide +kernel) rfl rfl rfl dL_law_0 (fun ad1 had1 hz1 => ?_)
    refine s_dup hz1 rfl dL_law_3 ?_
    refine s_callI (σ' := shX) (h' := S1) (mc := 50) (ms := 7030) [] [aR 0] hz1 hAl (hCe _ _ (by decide) (by decide)) ml_L_18 rfl im_yX11_init (TI_X11_init hset) (by decide) rfl rfl rfl rfl (Nat.le_of_ble_eq_true rfl) dL_law_4 (fun ad2 had2 hz2 => ?_)
    refine s_astore_n (l' := [(1, aR 0), (0, aR 999)]) hz2 (zN_U hN) dL_law_7 (by decide) rfl ?_
    refine s_new (σ' := sg115) (k := 51) (ci := 12) (C := RX12) (T := TX12) (n := 62) [none, some 998, none, none, some 998, some 998, some 998, none, none, some 998, none, some 998, some 998, some 998, some 998, none, none, none, none, none, some 998, some 998, none, some 998, some 998, some 998, some 998, none, some 998, some 998, some 998, some 998, some 998, some 998, none, some 998, some 998, none, none, some 998, some 998, some 998, some 998, none, some 998, some 998, some 998, some 998, some 998, some 998, some 998, some 998, some 998, some 998, none, some 998, none, some 998, some 998, some 998, none, some 998] hz2 hAl (hCe _ _ (by decide) (by decide)) rfl nw_L_19 (by decide +kernel) rfl (by decide) (fun i => hz0 51 i (by decide)) (by decide +kernel) rfl rfl rfl dL_law_8 (fun ad3 had3 hz3 => ?_)
    refine s_dup hz3 rfl dL_law_11 ?_
    refine s_callI (σ' := sg199) (h' := hs25 S1) (mc := 42) (ms := 24955) [] [aR 51] hz3 hAl (hCe _ _ (by decide) (by decide)) ml_L_21 rfl im_yX12_init (TI_X12_init hz0) (by decide) rfl rfl rfl rfl (Nat.le_of_ble_eq_true rfl) dL_law_12 (fun ad4 had4 hz4 => ?_)
    refine s_astore_n (l' := [(2, aR 51), (1, aR 0), (0, aR 999)]) hz4 (zN_U hN) dL_law_15 (by decide) rfl ?_
    refine s_iconst hz4 dL_law_16 ?_
    refine s_newarr (atype := .long) (σ' := shF) (k := 94) (n := 1) hz4 hAl (hCe _ _ (by decide) (by decide)) ac_long rfl (Or.inr (Or.inl rfl)) rfl (by decide) rfl (by decide) (fun i => hz0 94 i (by decide)) (by decide +kernel) rfl rfl shG_eq dL_law_17 (fun ad5 had5 hz5 => ?_)
    refine s_astore_n (l' := [(3, aR 94), (2, aR 51), (1, aR 0), (0, aR 999)]) hz5 (zN_U hN) dL_law_19 (by decide) rfl ?_
    refine s_iconst hz5 dL_law_20 ?_
    refine s_istore (l' := [(4, aI 0), (3, aR 94), (2, aR 51), (1, aR 0), (0, aR 999)]) hz5 (zN_U hN) dL_law_21 (by decide) rfl ?_
    refine s_pick (l' := [(0, aR 999), (1, aR 0), (2, aR 51), (3, aR 94), (4, aI 0)]) [4, 3, 2, 1, 0] rfl ?_
    have e9 : ad5 999 = b := by
      rw [had5 999 (Or.inr (by decide)), had4 999 (Or.inr (by decide)), had3 999 (Or.inr (by decide)), had2 999 (Or.inr (by decide)), had1 999 (Or.inr (by decide)), had9]
    have hsc : zScr z (ad5 999) L xs := by
      rw [hze, e9]
      exact ⟨hX, hbl, Nat.not_le.mpr hbl⟩
    refine law_loop hIW hIC hN hAl hCe hfz hsc hL (fun kc ks S l hkc hks => ?_) L 0 (hs25 S1) _ _ (by omega) (by omega) (by omega) (by decide) (by decide) hz5 hI0
    rw [hze]
    intro H locs ls hv hP hD hS
    refine va_forget (fun q hq => hS.2.2 q hq) ?_
    refine W.widen (k := 601024) (n := 7293034) (Nat.le_trans hkc (Nat.le_of_ble_eq_true rfl)) (Nat.le_trans hks (Nat.le_of_ble_eq_true rfl)) ?_
    exact lw_ret hx hb hr hlocks dL_law_1181
  refine key _ rfl s.heap [] ls (by rw [hml]; exact hl) (fun k q h => by simp [conc] at h) ⟨fun i j p q h => by simp [conc] at h, fun k q h => by simp [conc] at h⟩ va_S.rf
