/-! the eight texts: length and charAt -/
theorem dJ0_length_8abf5_0 : decode cJ0_length_8abf5 0 = .ok (.aload_n 0, 1) := by decide +kernel
theorem dJ0_length_8abf5_1 : decode cJ0_length_8abf5 1 = .ok (.getfield 9, 3) := by decide +kernel
theorem dJ0_length_8abf5_4 : decode cJ0_length_8abf5 4 = .ok (.arraylength, 1) := by decide +kernel
theorem dJ0_length_8abf5_5 : decode cJ0_length_8abf5 5 = .ok (.aload_n 0, 1) := by decide +kernel
theorem dJ0_length_8abf5_6 : decode cJ0_length_8abf5 6 = .ok (.invokevirtual 335, 3) := by decide +kernel
theorem dJ0_length_8abf5_9 : decode cJ0_length_8abf5 9 = .ok (.ishr, 1) := by decide +kernel
theorem dJ0_length_8abf5_10 : decode cJ0_length_8abf5 10 = .ok (.ireturn, 1) := by decide +kernel
theorem dJ0_charAt_5068e_0 : decode cJ0_charAt_5068e 0 = .ok (.aload_n 0, 1) := by decide +kernel
theorem dJ0_charAt_5068e_1 : decode cJ0_charAt_5068e 1 = .ok (.invokevirtual 492, 3) := by decide +kernel
theorem dJ0_charAt_5068e_4 : decode cJ0_charAt_5068e 4 = .ok (.ifCond .eq 12, 3) := by decide +kernel
theorem dJ0_charAt_5068e_7 : decode cJ0_charAt_5068e 7 = .ok (.aload_n 0, 1) := by decide +kernel
theorem dJ0_charAt_5068e_8 : decode cJ0_charAt_5068e 8 = .ok (.getfield 9, 3) := by decide +kernel
theorem dJ0_charAt_5068e_11 : decode cJ0_charAt_5068e 11 = .ok (.iload_n 1, 1) := by decide +kernel
theorem dJ0_charAt_5068e_12 : decode cJ0_charAt_5068e 12 = .ok (.invokestatic 495, 3) := by decide +kernel
theorem dJ0_charAt_5068e_15 : decode cJ0_charAt_5068e 15 = .ok (.ireturn, 1) := by decide +kernel
theorem dJ0_charAt_5068e_16 : decode cJ0_charAt_5068e 16 = .ok (.aload_n 0, 1) := by decide +kernel
theorem dJ0_charAt_5068e_17 : decode cJ0_charAt_5068e 17 = .ok (.getfield 9, 3) := by decide +kernel
theorem dJ0_charAt_5068e_20 : decode cJ0_charAt_5068e 20 = .ok (.iload_n 1, 1) := by decide +kernel
theorem dJ0_charAt_5068e_21 : decode cJ0_charAt_5068e 21 = .ok (.invokestatic 498, 3) := by decide +kernel
theorem dJ0_charAt_5068e_24 : decode cJ0_charAt_5068e 24 = .ok (.ireturn, 1) := by decide +kernel
theorem dJ0_coder_7d493_0 : decode cJ0_coder_7d493 0 = .ok (.getstatic 38, 3) := by decide +kernel
theorem dJ0_coder_7d493_3 : decode cJ0_coder_7d493 3 = .ok (.ifCond .eq 10, 3) := by decide +kernel
theorem dJ0_coder_7d493_6 : decode cJ0_coder_7d493 6 = .ok (.aload_n 0, 1) := by decide +kernel
theorem dJ0_coder_7d493_7 : decode cJ0_coder_7d493 7 = .ok (.getfield 15, 3) := by decide +kernel
theorem dJ0_coder_7d493_10 : decode cJ0_coder_7d493 10 = .ok (.goto 4, 3) := by decide +kernel
theorem dJ0_coder_7d493_13 : decode cJ0_coder_7d493 13 = .ok (.iconst 1, 1) := by decide +kernel
theorem dJ0_coder_7d493_14 : decode cJ0_coder_7d493 14 = .ok (.ireturn, 1) := by decide +kernel
theorem dJ0_isLatin1_aae02_0 : decode cJ0_isLatin1_aae02 0 = .ok (.getstatic 38, 3) := by decide +kernel
theorem dJ0_isLatin1_aae02_3 : decode cJ0_isLatin1_aae02 3 = .ok (.ifCond .eq 14, 3) := by decide +kernel
theorem dJ0_isLatin1_aae02_6 : decode cJ0_isLatin1_aae02 6 = .ok (.aload_n 0, 1) := by decide +kernel
theorem dJ0_isLatin1_aae02_7 : decode cJ0_isLatin1_aae02 7 = .ok (.getfield 15, 3) := by decide +kernel
theorem dJ0_isLatin1_aae02_10 : decode cJ0_isLatin1_aae02 10 = .ok (.ifCond .ne 7, 3) := by decide +kernel
theorem dJ0_isLatin1_aae02_13 : decode cJ0_isLatin1_aae02 13 = .ok (.iconst 1, 1) := by decide +kernel
theorem dJ0_isLatin1_aae02_14 : decode cJ0_isLatin1_aae02 14 = .ok (.goto 4, 3) := by decide +kernel
theorem dJ0_isLatin1_aae02_17 : decode cJ0_isLatin1_aae02 17 = .ok (.iconst 0, 1) := by decide +kernel
theorem dJ0_isLatin1_aae02_18 : decode cJ0_isLatin1_aae02 18 = .ok (.ireturn, 1) := by decide +kernel
theorem dJ0_checkIndex_df160_0 : decode cJ0_checkIndex_df160 0 = .ok (.iload_n 0, 1) := by decide +kernel
theorem dJ0_checkIndex_df160_1 : decode cJ0_checkIndex_df160 1 = .ok (.iload_n 1, 1) := by decide +kernel
theorem dJ0_checkIndex_df160_2 : decode cJ0_checkIndex_df160 2 = .ok (.getstatic 1053, 3) := by decide +kernel
theorem dJ0_checkIndex_df160_5 : decode cJ0_checkIndex_df160 5 = .ok (.invokestatic 1059, 3) := by decide +kernel
theorem dJ0_checkIndex_df160_8 : decode cJ0_checkIndex_df160 8 = .ok (.pop, 1) := by decide +kernel
theorem dJ0_checkIndex_df160_9 : decode cJ0_checkIndex_df160 9 = .ok (.return_, 1) := by decide +kernel
theorem dJ1_charAt_3b067_0 : decode cJ1_charAt_3b067 0 = .ok (.iload_n 1, 1) := by decide +kernel
theorem dJ1_charAt_3b067_1 : decode cJ1_charAt_3b067 1 = .ok (.aload_n 0, 1) := by decide +kernel
theorem dJ1_charAt_3b067_2 : decode cJ1_charAt_3b067 2 = .ok (.arraylength, 1) := by decide +kernel
theorem dJ1_charAt_3b067_3 : decode cJ1_charAt_3b067 3 = .ok (.invokestatic 9, 3) := by decide +kernel
theorem dJ1_charAt_3b067_6 : decode cJ1_charAt_3b067 6 = .ok (.aload_n 0, 1) := by decide +kernel
theorem dJ1_charAt_3b067_7 : decode cJ1_charAt_3b067 7 = .ok (.iload_n 1, 1) := by decide +kernel
theorem dJ1_charAt_3b067_8 : decode cJ1_charAt_3b067 8 = .ok (.baload, 1) := by decide +kernel
theorem dJ1_charAt_3b067_9 : decode cJ1_charAt_3b067 9 = .ok (.sipush 255, 3) := by decide +kernel
theorem dJ1_charAt_3b067_12 : decode cJ1_charAt_3b067 12 = .ok (.iand, 1) := by decide +kernel
theorem dJ1_charAt_3b067_13 : decode cJ1_charAt_3b067 13 = .ok (.i2c, 1) := by decide +kernel
theorem dJ1_charAt_3b067_14 : decode cJ1_charAt_3b067 14 = .ok (.ireturn, 1) := by decide +kernel
theorem dJ3_checkIndex_8e157_0 : decode cJ3_checkIndex_8e157 0 = .ok (.iload_n 0, 1) := by decide +kernel
theorem dJ3_checkIndex_8e157_1 : decode cJ3_checkIndex_8e157 1 = .ok (.ifCond .lt 8, 3) := by decide +kernel
theorem dJ3_checkIndex_8e157_4 : decode cJ3_checkIndex_8e157 4 = .ok (.iload_n 0, 1) := by decide +kernel
theorem dJ3_checkIndex_8e157_5 : decode cJ3_checkIndex_8e157 5 = .ok (.iload_n 1, 1) := by decide +kernel
theorem dJ3_checkIndex_8e157_6 : decode cJ3_checkIndex_8e157 6 = .ok (.if_icmp .lt 10, 3) := by decide +kernel
theorem dJ3_checkIndex_8e157_9 : decode cJ3_checkIndex_8e157 9 = .ok (.aload_n 2, 1) := by decide +kernel
theorem dJ3_checkIndex_8e157_10 : decode cJ3_checkIndex_8e157 10 = .ok (.iload_n 0, 1) := by decide +kernel
theorem dJ3_checkIndex_8e157_11 : decode cJ3_checkIndex_8e157 11 = .ok (.iload_n 1, 1) := by decide +kernel
theorem dJ3_checkIndex_8e157_12 : decode cJ3_checkIndex_8e157 12 = .ok (.invokestatic 95, 3) := by decide +kernel
theorem dJ3_checkIndex_8e157_15 : decode cJ3_checkIndex_8e157 15 = .ok (.athrow, 1) := by decide +kernel
theorem dJ3_checkIndex_8e157_16 : decode cJ3_checkIndex_8e157 16 = .ok (.iload_n 0, 1) := by decide +kernel
theorem dJ3_checkIndex_8e157_17 : decode cJ3_checkIndex_8e157 17 = .ok (.ireturn, 1) := by decide +kernel
theorem zlk3 : Cond.methodLink RJ0 1059 yJ3_checkIndex_8e157 ∈ Tg := zTg (i := 754) (by decide +kernel) (by decide +kernel)
theorem zst9 : Cond.fieldLink RJ0 9 "java/lang/String" "value" "[B" ∈ Tg := zTg (i := 1912) (by decide +kernel) (by decide +kernel)
theorem zst15 : Cond.fieldLink RJ0 15 "java/lang/String" "coder" "B" ∈ Tg := zTg (i := 1913) (by decide +kernel) (by decide +kernel)
theorem zst38 : Cond.fieldLink RJ0 38 "java/lang/String" "COMPACT_STRINGS" "Z" ∈ Tg := zTg (i := 736) (by decide +kernel) (by decide +kernel)
theorem zst1053 : Cond.fieldLink RJ0 1053 "jdk/internal/util/Preconditions" "SIOOBE_FORMATTER" "Ljava/util/function/BiFunction;" ∈ Tg := zTg (i := 752) (by decide +kernel) (by decide +kernel)
theorem ml_sl : zM RX9 74 yJ0_length_8abf5 cJ0_length_8abf5 1 (some .int) 0 := ⟨Or.inl (zTg (i := 728) (by decide +kernel) (by decide +kernel)), zTg (i := 127) (by decide +kernel) (by decide +kernel), zTg (i := 731) (by decide +kernel) (by decide +kernel), ⟨by decide +kernel, by decide +kernel, by decide +kernel⟩, by decide⟩
theorem ml_sc : zM RX9 80 yJ0_charAt_5068e cJ0_charAt_5068e 2 (some .char) 1 := ⟨Or.inl (zTg (i := 738) (by decide +kernel) (by decide +kernel)), zTg (i := 127) (by decide +kernel) (by decide +kernel), zTg (i := 741) (by decide +kernel) (by decide +kernel), ⟨by decide +kernel, by decide +kernel, by decide +kernel⟩, by decide⟩
theorem ml_so : zM RJ0 335 yJ0_coder_7d493 cJ0_coder_7d493 1 (some .byte) 0 := ⟨Or.inl (zTg (i := 732) (by decide +kernel) (by decide +kernel)), zTg (i := 127) (by decide +kernel) (by decide +kernel), zTg (i := 735) (by decide +kernel) (by decide +kernel), ⟨by decide +kernel, by decide +kernel, by decide +kernel⟩, by decide⟩
theorem ml_si : zM RJ0 492 yJ0_isLatin1_aae02 cJ0_isLatin1_aae02 1 (some .boolean) 0 := ⟨Or.inl (zTg (i := 742) (by decide +kernel) (by decide +kernel)), zTg (i := 127) (by decide +kernel) (by decide +kernel), zTg (i := 745) (by decide +kernel) (by decide +kernel), ⟨by decide +kernel, by decide +kernel, by decide +kernel⟩, by decide⟩
theorem ml_s1 : zM RJ0 495 yJ1_charAt_3b067 cJ1_charAt_3b067 2 (some .char) 2 := ⟨Or.inl (zTg (i := 746) (by decide +kernel) (by decide +kernel)), zTg (i := 128) (by decide +kernel) (by decide +kernel), zTg (i := 748) (by decide +kernel) (by decide +kernel), ⟨by decide +kernel, by decide +kernel, by decide +kernel⟩, by decide⟩
theorem ml_sk : zM RJ1 9 yJ0_checkIndex_df160 cJ0_checkIndex_df160 2 none 2 := ⟨Or.inl (zTg (i := 749) (by decide +kernel) (by decide +kernel)), zTg (i := 127) (by decide +kernel) (by decide +kernel), zTg (i := 751) (by decide +kernel) (by decide +kernel), ⟨by decide +kernel, by decide +kernel, by decide +kernel⟩, by decide⟩
theorem ml_s3 : zM RJ0 1059 yJ3_checkIndex_8e157 cJ3_checkIndex_8e157 3 (some .int) 3 := ⟨Or.inl (zTg (i := 754) (by decide +kernel) (by decide +kernel)), zTg (i := 129) (by decide +kernel) (by decide +kernel), zTg (i := 756) (by decide +kernel) (by decide +kernel), ⟨by decide +kernel, by decide +kernel, by decide +kernel⟩, by decide⟩
theorem sv_sl : Cond.instanceMethod yJ0_length_8abf5 ∈ Tg ∧ Cond.selects yJ0_length_8abf5.cls yJ0_length_8abf5 yJ0_length_8abf5 ∈ Tg := ⟨zTg (i := 729) (by decide +kernel) (by decide +kernel), zTg (i := 730) (by decide +kernel) (by decide +kernel)⟩
theorem sv_sc : Cond.instanceMethod yJ0_charAt_5068e ∈ Tg ∧ Cond.selects yJ0_charAt_5068e.cls yJ0_charAt_5068e yJ0_charAt_5068e ∈ Tg := ⟨zTg (i := 739) (by decide +kernel) (by decide +kernel), zTg (i := 740) (by decide +kernel) (by decide +kernel)⟩
theorem sv_so : Cond.instanceMethod yJ0_coder_7d493 ∈ Tg ∧ Cond.selects yJ0_coder_7d493.cls yJ0_coder_7d493 yJ0_coder_7d493 ∈ Tg := ⟨zTg (i := 733) (by decide +kernel) (by decide +kernel), zTg (i := 734) (by decide +kernel) (by decide +kernel)⟩
theorem sv_si : Cond.instanceMethod yJ0_isLatin1_aae02 ∈ Tg ∧ Cond.selects yJ0_isLatin1_aae02.cls yJ0_isLatin1_aae02 yJ0_isLatin1_aae02 ∈ Tg := ⟨zTg (i := 743) (by decide +kernel) (by decide +kernel), zTg (i := 744) (by decide +kernel) (by decide +kernel)⟩
theorem ss_s1 : Cond.static yJ1_charAt_3b067 ∈ Tg := zTg (i := 747) (by decide +kernel) (by decide +kernel)
theorem ss_sk : Cond.static yJ0_checkIndex_df160 ∈ Tg := zTg (i := 750) (by decide +kernel) (by decide +kernel)
theorem ss_s3 : Cond.static yJ3_checkIndex_8e157 ∈ Tg := zTg (i := 755) (by decide +kernel) (by decide +kernel)
section ZSTR
variable {z : Zt} {cc : ByteArray} {own : String} {d : Nat} {σ0 : List SC} {pc : Nat} {l l' : List (Nat × AV)} {st : List AV} {h : HS}
theorem s_callVS {y : MethodName} {cy : ByteArray} {mL n d' index w : Nat} {ty : FieldType} {r : Int} {h' : HS} (As rest : List AV) (hz : zO z cc own d σ0) (hm : zM own index y cy mL (some ty) n) (hm2 : Cond.instanceMethod y ∈ Tg ∧ Cond.selects y.cls y y ∈ Tg) (hR : zR σ0 y cy mL ty d' (aR (w + 1000) :: As) h r h') (hdd : d' + 1 ≤ d) (hn : As.length = n) (hw : w < 8) (hcl : y.cls = "java/lang/String") (hst : st = As.reverse ++ aR (w + 1000) :: rest) (hrest : (rest.map avc).sum ≤ 8) (hd : decode cc pc = .ok (.invokevirtual index, 3)) (k : rng r → WR σ0 h' → zA z (pc + 3) l (aI r :: rest) h') : zA z pc l st h := by
  obtain ⟨p, lc, e, R, s, m, args, below, meth, c, cells, slots, Q, σ, ad, D, cA, A⟩ := z
  obtain ⟨hx, hb, hown, hts, hK, hσ, hX, hfr, hlo, hce, hsl⟩ := hz
  obtain ⟨hlk, hini, hcode, hy, hmL⟩ := hm
  subst hst
  intro H locs ls hv hP hD hS
  have hpre := zpre (aR (w + 1000) :: As) hP hK hD hX hS
  have hrc := vk_recv hX.1 hw hS
  rw [← hcl] at hrc
  have e9 : ad (1000 + w) = ad (w + 1000) := by rw [Nat.add_comm]
  have hrc : ∃ cell : Cell, H[ad (w + 1000)]? = some cell ∧ cell.vm.isStatics = false ∧ s.vm.findClass y.cls = some cell.cls := by rw [← e9]; exact hrc
  have hG : GoodIn Tg (Cond.code y cy mL (some ty) :: Tg) := zGood (fun w hw => by
    rcases List.mem_cons.mp hw with rfl | hw
    · exact hcode
    · exact hw)
  have hroom : (zRm d').frames + 1 ≤ R.frames ∧ 8 + (mL + 11) + (zRm d').locals ≤ R.locals := ⟨Nat.le_trans hdd hfr, by show 8 + (mL + 11) + 60 * d' ≤ _; omega⟩
  have hstk : ((As.reverse ++ aR (w + 1000) :: rest).map (cv ad)) = (As.map (cv ad)).reverse ++ Value.ref (ad (w + 1000)) :: rest.map (cv ad) := by
    rw [List.map_append, List.map_reverse]; rfl
  have hW8 : 2 * (F0 m pc ls ((As.reverse ++ aR (w + 1000) :: rest).map (cv ad))).monitorRoom + ((rest.map (cv ad)).map fun v => v.category).sum ≤ 8 := lv_room (by rw [zcat]; exact hrest)
  have fin : ∀ (r' : Int32) (u : Unit) (t : State) (H1 : Heap) (locs1 : List Loc), t.heap = H1 → s.vm.Alike t.vm → (r' = Int32.ofInt r ∧ rng r ∧ WR σ0 h') → va_P D vwCl (conc σ ad cA h') t.heap → H.size ≤ H1.size → (∀ q : Nat, q < H.size → ¬ A q → H1[q]? = H[q]?) → va_S A s.heap H1 locs1 → W p lc e R s m args below meth c H1 locs1 (cells + 0) (slots + 0) Q (F0 m (pc + 3) ls (.int r' :: rest.map (cv ad))) := by
    intro r' u t H1 locs1 ht hvm hw hB hz1 hk1 hS1
    obtain ⟨rfl, hr, hW'⟩ := hw
    rw [ht] at hB
    exact k hr hW' H1 locs1 ls hv hB (conc_D hD) hS1
  rcases hlk with hlk | ⟨host, hlk⟩
  · exact va_calli (va_runV (As := As.map (cv ad)) (rest := rest.map (cv ad)) (b := ad (w + 1000)) (Ts := Tg) ⟨hx, hb, rfl, hown, hts⟩ (hR lc σ ad D cA A hσ) ⟨callB_of n hts hG rfl rfl rfl (hts _ hini) (hts _ hlk) hy hroom, hts _ hm2.1, hts _ hm2.2⟩ ⟨hpre.1, hrc, hpre.2⟩ rfl (by rw [List.length_map]; exact hn) hv.1 hstk hW8 hd ⟨hce, hsl⟩) hS (fun q _ h => h) (fun q h => h) fin
  · exact va_calli (va_runVN (As := As.map (cv ad)) (rest := rest.map (cv ad)) (b := ad (w + 1000)) (Ts := Tg) ⟨hx, hb, rfl, hown, hts⟩ (hR lc σ ad D cA A hσ) ⟨va_cnB n hts hG rfl rfl rfl (hX.2.2.1 _ hlk) (hts _ hini) hy hroom, hts _ hm2.1, hts _ hm2.2⟩ ⟨hpre.1, hrc, hpre.2⟩ rfl (by rw [List.length_map]; exact hn) hv.1 hstk hW8 hd ⟨hce, hsl⟩) hS (fun q _ h => h) (fun q h => h) fin

theorem s_sval {w : Nat} (hz : zO z cc RJ0 d σ0) (hw : w < 8) (hd : decode cc pc = .ok (.getfield 9, 3)) (k : zA z (pc + 3) l (aR (w + 1100) :: st) h) : zA z pc l (aR (w + 1000) :: st) h := by
  obtain ⟨p, lc, e, R, s, m, args, below, meth, c, cells, slots, Q, σ, ad, D, cA, A⟩ := z
  obtain ⟨hx, hb, hown, hts, hK, hσ, hX, -⟩ := hz
  intro H locs ls hv hP hD hS
  have hE := (hX.1.1 w hw).2.2.1
  have kk := k H locs ls hv hP hD hS
  show W p lc e R s m args below meth c H locs cells slots Q (F0 m pc ls (.ref (ad (w + 1000)) :: st.map (cv ad)))
  rw [Nat.add_comm w 1000]
  have kk : W p lc e R s m args below meth c H locs cells slots Q (F0 m (pc + 3) ls (.ref (ad (1100 + w)) :: st.map (cv ad))) := by
    rw [Nat.add_comm 1100 w]
    exact kk
  exact vk_getf hx hb hE hS hown (hts _ zst9) (fun _ h => h) hd kk
theorem s_scod {w : Nat} (hz : zO z cc RJ0 d σ0) (hw : w < 8) (hd : decode cc pc = .ok (.getfield 15, 3)) (k : zA z (pc + 3) l (aI 0 :: st) h) : zA z pc l (aR (w + 1000) :: st) h := by
  obtain ⟨p, lc, e, R, s, m, args, below, meth, c, cells, slots, Q, σ, ad, D, cA, A⟩ := z
  obtain ⟨hx, hb, hown, hts, hK, hσ, hX, -⟩ := hz
  intro H locs ls hv hP hD hS
  have hE := (hX.1.1 w hw).2.1
  have kk := k H locs ls hv hP hD hS
  show W p lc e R s m args below meth c H locs cells slots Q (F0 m pc ls (.ref (ad (w + 1000)) :: st.map (cv ad)))
  rw [Nat.add_comm w 1000]
  exact vk_getf hx hb hE hS hown (hts _ zst15) (fun _ h => h) hd kk
theorem s_svln {w : Nat} (hz : zO z cc own d σ0) (hw : w < 8) (hd : decode cc pc = .ok (.arraylength, 1)) (k : zA z (pc + 1) l (aI (zlenI w) :: st) h) : zA z pc l (aR (w + 1100) :: st) h := by
  obtain ⟨p, lc, e, R, s, m, args, below, meth, c, cells, slots, Q, σ, ad, D, cA, A⟩ := z
  obtain ⟨hx, hb, hown, hts, hK, hσ, hX, -⟩ := hz
  intro H locs ls hv hP hD hS
  have hE := (hX.1.1 w hw).2.2.2
  have kk := k H locs ls hv hP hD hS
  show W p lc e R s m args below meth c H locs cells slots Q (F0 m pc ls (.ref (ad (w + 1100)) :: st.map (cv ad)))
  rw [Nat.add_comm w 1100]
  exact va_tlen hx hb hE hS rfl hd kk
theorem s_svld {w : Nat} {i : Int} (hz : zO z cc own d σ0) (hw : w < 8) (hi : 0 ≤ i ∧ i < zlenI w) (hd : decode cc pc = .ok (.baload, 1)) (k : zA z (pc + 1) l (aI (zchI w i) :: st) h) : zA z pc l (aI i :: aR (w + 1100) :: st) h := by
  obtain ⟨p, lc, e, R, s, m, args, below, meth, c, cells, slots, Q, σ, ad, D, cA, A⟩ := z
  obtain ⟨hx, hb, hown, hts, hK, hσ, hX, -⟩ := hz
  intro H locs ls hv hP hD hS
  have hE := (hX.1.1 w hw).2.2.2
  have kk := k H locs ls hv hP hD hS
  have hl : (zlen.getD w 0 : Int) < 2147483648 := (zlenI_r (w := w)).2
  obtain ⟨ri, hin⟩ := z_in hi.1 (show i < ((zlen.getD w 0 : Nat) : Int) from hi.2) (by omega)
  show W p lc e R s m args below meth c H locs cells slots Q (F0 m pc ls (.int (Int32.ofInt i) :: .ref (ad (w + 1100)) :: st.map (cv ad)))
  rw [Nat.add_comm w 1100]
  refine va_tb hx hb hE hS hin (v := .int (Int32.ofInt (zchI w i))) ?_ hd kk
  show Value.int ((zbyt.getD w []).getD (Int32.ofInt i).toNatClampNeg 0) = Value.int (Int32.ofInt (((zbyt.getD w []).getD i.toNat 0).toInt))
  rw [z_cl ri, z_as]
theorem s_scps (hz : zO z cc RJ0 d σ0) (hd : decode cc pc = .ok (.getstatic 38, 3)) (k : zA z (pc + 3) l (aI 1 :: st) h) : zA z pc l st h := by
  obtain ⟨p, lc, e, R, s, m, args, below, meth, c, cells, slots, Q, σ, ad, D, cA, A⟩ := z
  obtain ⟨hx, hb, hown, hts, hK, hσ, hX, -⟩ := hz
  intro H locs ls hv hP hD hS
  exact va_gets hx hb hX.2.2.2.1 hS hown (hts _ zst38) (fun _ h => h) hd (k H locs ls hv hP hD hS)
/-- Preconditions.checkIndex, its third argument any reference or null -/
theorem c_chk3 (lc : Launch) (i n : Int) (v : Value) (hv0 : v = .null ∨ ∃ t : Nat, v = .ref t) (ri : rng i) (rn : rng n) (h0 : 0 ≤ i) (h1 : i < n) (A : Nat → Prop) : Met lc yJ3_checkIndex_8e157 (Cond.code yJ3_checkIndex_8e157 cJ3_checkIndex_8e157 3 (some .int) :: Tg) (zRm 0) (va_Pc [.int (Int32.ofInt i), .int (Int32.ofInt n), v] (fun _ => True)) (va_Qi (fun (r : Int32) (_ : Unit) => r = Int32.ofInt i) (fun _ _ => True) A) 0 0 A := by
  refine Met.ofW (cc := cJ3_checkIndex_8e157) (maxL := 3) (ret := some .int) (by decide +kernel) rfl ?_
  intro p e s m args below meth c s₁ B hml hvv
  obtain ⟨rfl, -⟩ := hvv
  have hx := B.exec
  have hb := B.bytes
  have hr := B.returns
  have hlocks := B.notSynchronized
  have hS : va_S A s.heap s.heap [] := va_S.rf
  have hl := lv_entry ([.int (Int32.ofInt i), .int (Int32.ofInt n), v]) (n := 3) (by rcases hv0 with rfl | ⟨t, rfl⟩ <;> exact Nat.le_of_ble_eq_true rfl)
  rw [lg_entry_eq]
  generalize (lg_sl ([.int (Int32.ofInt i), .int (Int32.ofInt n), v]) ++ List.replicate (3 - (lg_sl ([.int (Int32.ofInt i), .int (Int32.ofInt n), v])).length) Slot.unset).toArray = ls at hl ⊢
  have hl : lv_has ls 3 [(0, .int (Int32.ofInt i)), (1, .int (Int32.ofInt n)), (2, v)] := hl
  refine lv_iload_n hx hb dJ3_checkIndex_8e157_0 rfl (lv_at hl 0 rfl) ?_
  refine lv_if_lt (tgt := 9) hx hb dJ3_checkIndex_8e157_1 (by decide) (fun q => absurd ((z_lt ri z_rng0).mp q) (by omega)) (fun _ => ?_)
  refine lv_iload_n hx hb dJ3_checkIndex_8e157_4 rfl (lv_at hl 0 rfl) ?_
  refine lv_iload_n hx hb dJ3_checkIndex_8e157_5 rfl (lv_at hl 1 rfl) ?_
  refine lv_icmp_lt (tgt := 16) hx hb dJ3_checkIndex_8e157_6 (by decide) (fun _ => ?_) (fun q => absurd ((z_lt ri rn).mpr h1) q)
  refine lv_iload_n hx hb dJ3_checkIndex_8e157_16 rfl (lv_at hl 0 rfl) ?_
  exact W.iret hx hb hr (fun t ht hW => ⟨⟨_, (), rfl, rfl, trivial⟩, hS.F ht⟩) hS.2.2 dJ3_checkIndex_8e157_17
theorem s_chk {i n : Int} (hz : zO z cc RJ0 d σ0) (hd1 : 1 ≤ d) (ri : rng i) (rn : rng n) (h0 : 0 ≤ i) (h1 : i < n) (hrest : (st.map avc).sum ≤ 8) (hda : decode cc pc = .ok (.getstatic 1053, 3)) (hdb : decode cc (pc + 3) = .ok (.invokestatic 1059, 3)) (k : zA z (pc + 6) l (aI i :: st) h) : zA z pc l (aI n :: aI i :: st) h := by
  obtain ⟨p, lc, e, R, s, m, args, below, meth, c, cells, slots, Q, σ, ad, D, cA, A⟩ := z
  obtain ⟨hx, hb, hown, hts, hK, hσ, hX, hfr, hlo, hce, hsl⟩ := hz
  obtain ⟨hlk, hini, hcode, hy, hmL⟩ := ml_s3
  intro H locs ls hv hP hD hS
  obtain ⟨v, hv0, hZ⟩ : ∃ v : Value, (v = .null ∨ ∃ t : Nat, v = .ref t) ∧ va_Z "jdk/internal/util/Preconditions" "SIOOBE_FORMATTER" "Ljava/util/function/BiFunction;" v A s s.heap := by
    rcases hX.2.2.2.2.1 with q | ⟨t, q⟩
    · exact ⟨.null, Or.inl rfl, q⟩
    · exact ⟨.ref t, Or.inr ⟨t, rfl⟩, q⟩
  refine va_gets hx hb hZ hS hown (hts _ zst1053) (fun _ h => h) hda ?_
  have hG : GoodIn Tg (Cond.code yJ3_checkIndex_8e157 cJ3_checkIndex_8e157 3 (some .int) :: Tg) := zGood (fun w hw => by
    rcases List.mem_cons.mp hw with rfl | hw
    · exact hcode
    · exact hw)
  have hW8 : 2 * (F0 m (pc + 3) ls (v :: .int (Int32.ofInt n) :: .int (Int32.ofInt i) :: st.map (cv ad))).monitorRoom + ((st.map (cv ad)).map fun v => v.category).sum ≤ 8 := lv_room (by rw [zcat]; exact hrest)
  refine va_calli (va_runS (As := [.int (Int32.ofInt i), .int (Int32.ofInt n), v]) (rest := st.map (cv ad)) (Ts := Tg) (g := F0 m (pc + 3) ls (v :: .int (Int32.ofInt n) :: .int (Int32.ofInt i) :: st.map (cv ad))) ⟨hx, hb, rfl, hown, hts⟩ (c_chk3 lc i n v hv0 ri rn h0 h1 (fun _ => False)) ⟨callB_of 3 hts hG rfl rfl rfl (hts _ hini) (hts _ zlk3) hy ⟨by show 0 + 1 ≤ _; omega, by show 8 + (3 + 11) + 60 * 0 ≤ _; omega⟩, hts _ ss_s3⟩ ⟨fun a U g mk q => ⟨q.1, trivial⟩, fun U hU hW => ⟨rfl, trivial⟩⟩ rfl rfl hv.1 rfl hW8 hdb ⟨hce, hsl⟩) hS (fun q _ h => h.elim) (fun q h => h.elim) (fun r' u t H1 locs1 ht hvm hw hB hz1 hk1 hS1 => ?_)
  subst hw
  have hPk : va_P D vwCl (conc σ ad cA h) H1 := hP.kept (fun k q hk => hk1 q.1 (hP k q hk).lt (fun h => h))
  exact k H1 locs1 ls hv hPk hD hS1
theorem s_shr0 {x : Int} (hz : zO z cc own d σ0) (hd : decode cc pc = .ok (.ishr, 1)) (k : zA z (pc + 1) l (aI x :: st) h) : zA z pc l (aI 0 :: aI x :: st) h := by
  obtain ⟨p, lc, e, R, s, m, args, below, meth, c, cells, slots, Q, σ, ad, D, cA, A⟩ := z
  obtain ⟨hx, hb, -⟩ := hz
  intro H locs ls hv hP hD hS
  refine lv_ishr hx hb hd ?_
  rw [show Int32.ofInt 0 = (0 : Int32) from rfl, sb_shr0]
  exact k H locs ls hv hP hD hS
theorem T_coder {w : Nat} (hw : w < 8) (hW : WR σ0 h) : zR σ0 yJ0_coder_7d493 cJ0_coder_7d493 1 .byte 1 [aR (w + 1000)] h 0 h := by
  refine zR_of (by decide +kernel) (Nat.le_of_ble_eq_true rfl) (fun z hz hN hF => ?_)
  have hz : zO z cJ0_coder_7d493 RJ0 1 σ0 := hz
  show zA z 0 [(0, aR (w + 1000))] [] h
  refine s_scps hz dJ0_coder_7d493_0 ?_
  refine s_if_eq 13 hz rl_1 dJ0_coder_7d493_3 rfl (fun c => absurd c (by decide)) (fun _ => ?_)
  refine s_aload_n 0 hz dJ0_coder_7d493_6 rfl ?_
  refine s_scod hz hw dJ0_coder_7d493_7 ?_
  refine s_goto 14 hz dJ0_coder_7d493_10 rfl ?_
  exact s_ireturn hz hF rfl rl_0 hW dJ0_coder_7d493_14
theorem T_isL1 {w : Nat} (hw : w < 8) (hW : WR σ0 h) : zR σ0 yJ0_isLatin1_aae02 cJ0_isLatin1_aae02 1 .boolean 1 [aR (w + 1000)] h 1 h := by
  refine zR_of (by decide +kernel) (Nat.le_of_ble_eq_true rfl) (fun z hz hN hF => ?_)
  have hz : zO z cJ0_isLatin1_aae02 RJ0 1 σ0 := hz
  show zA z 0 [(0, aR (w + 1000))] [] h
  refine s_scps hz dJ0_isLatin1_aae02_0 ?_
  refine s_if_eq 17 hz rl_1 dJ0_isLatin1_aae02_3 rfl (fun c => absurd c (by decide)) (fun _ => ?_)
  refine s_aload_n 0 hz dJ0_isLatin1_aae02_6 rfl ?_
  refine s_scod hz hw dJ0_isLatin1_aae02_7 ?_
  refine s_if_ne 17 hz rl_0 dJ0_isLatin1_aae02_10 rfl (fun c => absurd rfl c) (fun _ => ?_)
  refine s_iconst hz dJ0_isLatin1_aae02_13 ?_
  refine s_goto 18 hz dJ0_isLatin1_aae02_14 rfl ?_
  exact s_ireturn hz hF rfl rl_1 hW dJ0_isLatin1_aae02_18
theorem T_slen {w : Nat} (hw : w < 8) (hW : WR σ0 h) : zR σ0 yJ0_length_8abf5 cJ0_length_8abf5 1 .int 2 [aR (w + 1000)] h (zlenI w) h := by
  refine zR_of (by decide +kernel) (Nat.le_of_ble_eq_true rfl) (fun z hz hN hF => ?_)
  have hz : zO z cJ0_length_8abf5 RJ0 2 σ0 := hz
  show zA z 0 [(0, aR (w + 1000))] [] h
  refine s_aload_n 0 hz dJ0_length_8abf5_0 rfl ?_
  refine s_sval hz hw dJ0_length_8abf5_1 ?_
  refine s_svln hz hw dJ0_length_8abf5_4 ?_
  refine s_aload_n 0 hz dJ0_length_8abf5_5 rfl ?_
  refine s_callVS [] [aI (zlenI w)] hz ml_so sv_so (T_coder hw hW) (by decide) rfl hw rfl rfl (Nat.le_of_ble_eq_true rfl) dJ0_length_8abf5_6 (fun _ _ => ?_)
  refine s_shr0 hz dJ0_length_8abf5_9 ?_
  exact s_ireturn hz hF rfl zlenI_r hW dJ0_length_8abf5_10
theorem T_chk0 {i n : Int} (ri : rng i) (rn : rng n) (h0 : 0 ≤ i) (h1 : i < n) (hW : WR σ0 h) : zV σ0 yJ0_checkIndex_df160 cJ0_checkIndex_df160 2 1 [aI i, aI n] h h := by
  refine zV_of (by decide +kernel) (Nat.le_of_ble_eq_true rfl) (fun z hz hN hF => ?_)
  have hz : zO z cJ0_checkIndex_df160 RJ0 1 σ0 := hz
  show zA z 0 [(0, aI i), (1, aI n)] [] h
  refine s_iload_n 0 hz dJ0_checkIndex_df160_0 rfl ?_
  refine s_iload_n 1 hz dJ0_checkIndex_df160_1 rfl ?_
  refine s_chk hz (by decide) ri rn h0 h1 (Nat.le_of_ble_eq_true rfl) dJ0_checkIndex_df160_2 dJ0_checkIndex_df160_5 ?_
  refine s_pop hz rfl dJ0_checkIndex_df160_8 ?_
  exact s_return hz hF hW dJ0_checkIndex_df160_9
theorem zch_c : ∀ w : Nat, w < 8 → ∀ n : Nat, n < 8 → zi2c (zand (zchI w (n : Int)) 255) = zchI w (n : Int) ∧ 0 ≤ zchI w (n : Int) ∧ zchI w (n : Int) < 65536 := by decide +kernel
theorem zlen_8 : ∀ w : Nat, w < 8 → zlenI w < 8 := by decide +kernel
theorem zch_i {w : Nat} {i : Int} (hw : w < 8) (hi : 0 ≤ i ∧ i < zlenI w) : zi2c (zand (zchI w i) 255) = zchI w i ∧ 0 ≤ zchI w i ∧ zchI w i < 65536 := by
  have h8 := zlen_8 w hw
  have := zch_c w hw i.toNat (by omega)
  rw [Int.toNat_of_nonneg hi.1] at this
  exact this
theorem T_s1 {w : Nat} {i : Int} (hw : w < 8) (ri : rng i) (hi : 0 ≤ i ∧ i < zlenI w) (hW : WR σ0 h) : zR σ0 yJ1_charAt_3b067 cJ1_charAt_3b067 2 .char 2 [aR (w + 1100), aI i] h (zchI w i) h := by
  refine zR_of (by decide +kernel) (Nat.le_of_ble_eq_true rfl) (fun z hz hN hF => ?_)
  have hz : zO z cJ1_charAt_3b067 RJ1 2 σ0 := hz
  show zA z 0 [(0, aR (w + 1100)), (1, aI i)] [] h
  refine s_iload_n 1 hz dJ1_charAt_3b067_0 rfl ?_
  refine s_aload_n 0 hz dJ1_charAt_3b067_1 rfl ?_
  refine s_svln hz hw dJ1_charAt_3b067_2 ?_
  refine s_callSv [aI i, aI (zlenI w)] [] hz ml_sk ss_sk (T_chk0 ri zlenI_r hi.1 hi.2 hW) (by decide) rfl rfl (Nat.le_of_ble_eq_true rfl) dJ1_charAt_3b067_3 (fun _ => ?_)
  refine s_aload_n 0 hz dJ1_charAt_3b067_6 rfl ?_
  refine s_iload_n 1 hz dJ1_charAt_3b067_7 rfl ?_
  refine s_svld hz hw hi dJ1_charAt_3b067_8 ?_
  refine s_sipush hz dJ1_charAt_3b067_9 (by decide +kernel) ?_
  refine s_iand hz dJ1_charAt_3b067_12 ?_
  refine s_i2c hz dJ1_charAt_3b067_13 ?_
  obtain ⟨e1, e2, e3⟩ := zch_i hw hi
  rw [e1]
  exact s_ireturn hz hF (z_nC e2 e3).1 zchI_r hW dJ1_charAt_3b067_14
theorem T_sch {w : Nat} {i : Int} (hw : w < 8) (ri : rng i) (hi : 0 ≤ i ∧ i < zlenI w) (hW : WR σ0 h) : zR σ0 yJ0_charAt_5068e cJ0_charAt_5068e 2 .char 3 [aR (w + 1000), aI i] h (zchI w i) h := by
  refine zR_of (by decide +kernel) (Nat.le_of_ble_eq_true rfl) (fun z hz hN hF => ?_)
  have hz : zO z cJ0_charAt_5068e RJ0 3 σ0 := hz
  show zA z 0 [(0, aR (w + 1000)), (1, aI i)] [] h
  refine s_aload_n 0 hz dJ0_charAt_5068e_0 rfl ?_
  refine s_callVS [] [] hz ml_si sv_si (T_isL1 hw hW) (by decide) rfl hw rfl rfl (Nat.le_of_ble_eq_true rfl) dJ0_charAt_5068e_1 (fun _ _ => ?_)
  refine s_if_eq 16 hz rl_1 dJ0_charAt_5068e_4 rfl (fun c => absurd c (by decide)) (fun _ => ?_)
  refine s_aload_n 0 hz dJ0_charAt_5068e_7 rfl ?_
  refine s_sval hz hw dJ0_charAt_5068e_8 ?_
  refine s_iload_n 1 hz dJ0_charAt_5068e_11 rfl ?_
  refine s_callS [aR (w + 1100), aI i] [] hz ml_s1 ss_s1 (T_s1 hw ri hi hW) (by decide) rfl rfl (Nat.le_of_ble_eq_true rfl) dJ0_charAt_5068e_12 (fun _ _ => ?_)
  obtain ⟨e1, e2, e3⟩ := zch_i hw hi
  exact s_ireturn hz hF (z_nC e2 e3).1 zchI_r hW dJ0_charAt_5068e_15
theorem s_slen {w : Nat} (hz : zO z cc zTxO d σ0) (hw : w < 8) (hW : WR σ0 h) (hd3 : 4 ≤ d) (hrest : (st.map avc).sum ≤ 8) (hd : decode cc pc = .ok (.invokevirtual 74, 3)) (k : zA z (pc + 3) l (aI (zlenI w) :: st) h) : zA z pc l (aR (w + 1000) :: st) h :=
  s_callVS [] st hz ml_sl sv_sl (T_slen hw hW) (by omega) rfl hw rfl rfl hrest hd (fun _ _ => k)
theorem s_schar {w : Nat} {i : Int} (hz : zO z cc zTxO d σ0) (hw : w < 8) (hW : WR σ0 h) (hd3 : 4 ≤ d) (ri : rng i) (hi : 0 ≤ i ∧ i < zlenI w) (hrest : (st.map avc).sum ≤ 8) (hd : decode cc pc = .ok (.invokevirtual 80, 3)) (k : zA z (pc + 3) l (aI (zchI w i) :: st) h) : zA z pc l (aI i :: aR (w + 1000) :: st) h :=
  s_callVS [aI i] st hz ml_sc sv_sc (T_sch hw ri hi hW) (by omega) rfl hw rfl rfl hrest hd (fun _ _ => k)
end ZSTR
