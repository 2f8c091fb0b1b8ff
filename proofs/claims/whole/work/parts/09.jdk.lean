/-! what the class calls of the JDK: Arrays.fill, System.arraycopy, the texts -/
def zfill (S : HS) (c : Nat) (n v : Int) : HS := fun c' i => if c' = c ∧ 0 ≤ i ∧ i < n then v else S c' i
theorem zfill_W {σ0 : List SC} {S : HS} {c : Nat} {n v : Int} {q : SC} (hW : WR σ0 S) (hc : σ0[c]? = some q) (hv : zWr q v) : WR σ0 (zfill S c n v) := by
  intro k r hk j
  unfold zfill
  split
  · rename_i e
    rw [e.1, hc] at hk
    cases hk
    exact hv
  · exact hW k r hk j
theorem zfill_go {z : Zt} {σ0 : List SC} {c n : Nat} {nz v : Int} {S' : HS} (hz : zO z cJ7_fill_53178 RJ7 1 σ0) (hN : zN z 4) (hc : σ0[c]? = some (.inl (.int, n))) (hnb : n < 2147483648) (hnz : (n : Int) = nz) (rv : rng v) (hF : zFv z σ0 S') : ∀ (m : Nat) (i : Int) (S : HS), 0 ≤ i → i ≤ nz → nz - i = (m : Int) → WR σ0 S → S' = (fun c' j => if c' = c ∧ i ≤ j ∧ j < nz then v else S c' j) → zA z 5 [(0, aR c), (1, aI v), (2, aI i), (3, aI nz)] [] S := by
  have rn : rng nz := by unfold rng; omega
  intro m
  induction m with
  | zero =>
    intro i S h0 h1 h2 hW hS
    have ri : rng i := by unfold rng; omega
    refine s_iload_n 2 hz dJ7_fill_53178_5 rfl ?_
    refine s_iload_n 3 hz dJ7_fill_53178_6 rfl ?_
    refine s_icmp_ge 20 hz ri rn dJ7_fill_53178_7 rfl (fun c1 => ?_) (fun c1 => absurd (by omega) c1)
    have e : S' = S := by
      rw [hS]
      funext c' j
      rw [if_neg (by omega)]
    rw [e] at hF
    exact s_return hz hF hW dJ7_fill_53178_20
  | succ m ih =>
    intro i S h0 h1 h2 hW hS
    have ri : rng i := by unfold rng; omega
    have ri1 : rng (i + 1) := by unfold rng; omega
    refine s_iload_n 2 hz dJ7_fill_53178_5 rfl ?_
    refine s_iload_n 3 hz dJ7_fill_53178_6 rfl ?_
    refine s_icmp_ge 20 hz ri rn dJ7_fill_53178_7 rfl (fun c1 => absurd c1 (by omega)) (fun c1 => ?_)
    refine s_aload_n 0 hz dJ7_fill_53178_10 rfl ?_
    refine s_iload_n 2 hz dJ7_fill_53178_11 rfl ?_
    refine s_iload_n 1 hz dJ7_fill_53178_12 rfl ?_
    refine s_iast hz hc hnz hnb ⟨h0, by omega⟩ dJ7_fill_53178_13 ?_
    refine s_iinc (k0 := 2) (y := i + 1) (l' := [(2, aI (i + 1)), (0, aR c), (1, aI v), (3, aI nz)]) hz hN dJ7_fill_53178_14 rfl rfl (by decide) rfl ?_
    refine s_goto 5 hz dJ7_fill_53178_17 rfl ?_
    refine s_pick (l' := [(0, aR c), (1, aI v), (2, aI (i + 1)), (3, aI nz)]) [1, 2, 0, 3] rfl ?_
    refine ih (i + 1) (up S c i v) (by omega) (by omega) (by omega) (hW.up hc rv) ?_
    rw [hS]
    funext c' j
    unfold up
    by_cases e : c' = c ∧ j = i
    · rw [if_pos (by omega), if_neg (by omega), if_pos e]
    · by_cases e2 : c' = c ∧ i ≤ j ∧ j < nz
      · rw [if_pos e2, if_pos (by omega)]
      · rw [if_neg e2, if_neg (by omega), if_neg e]
theorem T_fill {σ0 : List SC} {c n : Nat} {nz v : Int} {S : HS} (hW : WR σ0 S) (hc : σ0[c]? = some (.inl (.int, n))) (hnb : n < 2147483648) (hnz : (n : Int) = nz) (rv : rng v) : zV σ0 yJ7_fill_53178 cJ7_fill_53178 4 1 [aR c, aI v] S (zfill S c nz v) := by
  refine zV_of (by decide +kernel) (Nat.le_of_ble_eq_true rfl) (fun z hz hN hF => ?_)
  have hz : zO z cJ7_fill_53178 RJ7 1 σ0 := hz
  show zA z 0 [(0, aR c), (1, aI v)] [] S
  refine s_iconst hz dJ7_fill_53178_0 ?_
  refine s_istore_n (l' := [(2, aI 0), (0, aR c), (1, aI v)]) hz hN dJ7_fill_53178_1 (by decide) rfl ?_
  refine s_aload_n 1 hz dJ7_fill_53178_2 rfl ?_
  refine s_alen hz hc (by decide) hnz dJ7_fill_53178_3 ?_
  refine s_istore_n (l' := [(3, aI nz), (2, aI 0), (0, aR c), (1, aI v)]) hz hN dJ7_fill_53178_4 (by decide) rfl ?_
  refine s_pick (l' := [(0, aR c), (1, aI v), (2, aI 0), (3, aI nz)]) [2, 3, 1, 0] rfl ?_
  exact zfill_go hz hN hc hnb hnz rv hF n 0 S (by omega) (by omega) (by omega) hW rfl
def zcpy (S : HS) (c0 c1 : Nat) (n : Int) : HS := fun c i => if c = c1 ∧ 0 ≤ i ∧ i < n then S c0 i else S c i
theorem zcpy_W {σ0 : List SC} {S : HS} {c0 c1 n0 n1 : Nat} {n : Int} (hW : WR σ0 S) (h0 : σ0[c0]? = some (.inl (.int, n0))) (h1 : σ0[c1]? = some (.inl (.int, n1))) : WR σ0 (zcpy S c0 c1 n) := by
  intro k r hk j
  unfold zcpy
  split
  · rename_i e
    rw [e.1, h1] at hk
    cases hk
    exact hW c0 _ h0 j
  · exact hW k r hk j
def zCp (own : String) (index : Nat) : Prop := Cond.methodLink own index arraycopyName ∈ Tg ∧ Cond.native arraycopyName ∈ Tg ∧ Cond.static arraycopyName ∈ Tg ∧ Cond.initialized "java/lang/System" ∈ Tg
theorem z_nfw : nativeFrameWords "java/lang/System" "arraycopy" 5 + 11 ≤ 52 := by decide +kernel
section ZP
variable {z : Zt} {cc : ByteArray} {own : String} {d : Nat} {σ0 : List SC} {pc : Nat} {l l' : List (Nat × AV)} {st : List AV} {h : HS}
theorem s_cpy {c0 c1 n index : Nat} {nz : Int} (hz : zO z cc own d σ0) (hJ : zCp own index) (hd1 : 1 ≤ d) (hc0 : σ0[c0]? = some (.inl (.int, n))) (hc1 : σ0[c1]? = some (.inl (.int, n))) (hnz : (n : Int) = nz) (hnb : n < 2147483648) (hrest : (st.map avc).sum ≤ 8) (hd : decode cc pc = .ok (.invokestatic index, 3)) (k : zA z (pc + 3) l st (zcpy h c0 c1 nz)) : zA z pc l (aI nz :: aI 0 :: aR c1 :: aI 0 :: aR c0 :: st) h := by
  obtain ⟨p, lc, e, R, s, m, args, below, meth, c, cells, slots, Q, σ, ad, D, cA, A⟩ := z
  obtain ⟨hx, hb, hown, hts, hK, hσ, hX, hfr, hlo, hce, hsl⟩ := hz
  subst hnz
  have rn : rng (n : Int) := by unfold rng; omega
  have e1 : (Int32.ofInt (n : Int)).toNatClampNeg = n := by rw [z_cl rn]; omega
  intro H locs ls hv hP hD hS
  have g0 := hσ _ _ hc0
  have g1 := hσ _ _ hc1
  have hset := conc_set (σ := σ) (ad := ad) (cA := cA) (h := h) (h' := zcpy h c0 c1 (n : Int)) g1 (fun k hk => funext fun i => by unfold zcpy; rw [if_neg (by omega)])
  have hnf := z_nfw
  refine va_copyi hx hb hv.1.symm hown (hts _ hJ.1) (hts _ hJ.2.1) (hts _ hJ.2.2.1) (hts _ hJ.2.2.2) hK hP hD hS c0 c1 0 0 (conc_at g0) (conc_at g1) rfl rfl rfl (sp := Int32.ofInt 0) (dp := Int32.ofInt 0) (n := Int32.ofInt (n : Int)) (by decide) (by decide) (fun w => by have := (z_lt rn z_rng0).mp w; omega) (by rw [e1]; show 0 + n ≤ n; omega) (by rw [e1]; show 0 + n ≤ n; omega) (fun i hi => rfl) (by omega) (by rw [zcat]; omega) hd (fun H1 locs1 hP hD hS => ?_)
  have e2 : va_cpy (fun j : Nat => Int32.ofInt (h c0 (j : Int))) (fun j : Nat => Int32.ofInt (h c1 (j : Int))) (Int32.ofInt 0).toNatClampNeg (Int32.ofInt 0).toNatClampNeg (Int32.ofInt (n : Int)).toNatClampNeg = (fun j : Nat => Int32.ofInt (zcpy h c0 c1 (n : Int) c1 (j : Int))) := by
    rw [e1]
    funext j
    unfold va_cpy zcpy
    show (if 0 ≤ j ∧ j < 0 + n then Int32.ofInt (h c0 ((0 + (j - 0) : Nat) : Int)) else Int32.ofInt (h c1 (j : Int))) = _
    by_cases hj : j < n
    · rw [if_pos (by omega), if_pos (by omega)]
      congr 3
      omega
    · rw [if_neg (by omega), if_neg (by omega)]
  rw [e2] at hP hD
  have hP : va_P D vwCl ((conc σ ad cA h).set c1 (ad c1, cellOf ad cA (zcpy h c0 c1 (n : Int)) c1 (.inl (.int, n)))) H1 := hP
  have hD : va_D A ((conc σ ad cA h).set c1 (ad c1, cellOf ad cA (zcpy h c0 c1 (n : Int)) c1 (.inl (.int, n)))) := hD
  rw [hset] at hP hD
  exact k H1 locs1 ls hv hP hD hS
def zlenI (w : Nat) : Int := (zlen.getD w 0 : Nat)
def zchI (w : Nat) (n : Int) : Int := ((zbyt.getD w []).getD n.toNat 0).toInt
theorem zlenI_r {w : Nat} : rng (zlenI w) := by
  rcases w with _ | _ | _ | _ | _ | _ | _ | _ | n <;> first | exact z_rng0 | exact ⟨by decide, by decide⟩
theorem zchI_r {w : Nat} {n : Int} : rng (zchI w n) := z_rngI _
theorem s_ldcT {i : Nat} {tx : String} (q : Nat) (hz : zO z cc zTxO d σ0) (hq : ztxt[q]? = some (i, tx)) (hd : decode cc pc = .ok (.ldc i, 2)) (k : zA z (pc + 2) l (aR (1000 + q) :: st) h) : zA z pc l st h := by
  obtain ⟨p, lc, e, R, s, m, args, below, meth, c, cells, slots, Q, σ, ad, D, cA, A⟩ := z
  obtain ⟨hx, hb, hown, hts, hK, hσ, hX, -⟩ := hz
  intro H locs ls hv hP hD hS
  exact va_ldcS hx hb hown (hX.2.1 q _ hq) hd (k H locs ls hv hP hD hS)
end ZP
theorem mc_X1_48 : zCp RX1 48 := ⟨zTg (i := 1158) (by decide +kernel) (by decide +kernel), zTg (i := 1160) (by decide +kernel) (by decide +kernel), zTg (i := 1159) (by decide +kernel) (by decide +kernel), zTg (i := 136) (by decide +kernel) (by decide +kernel)⟩
