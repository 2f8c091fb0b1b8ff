theorem zTgs {ws : List Cond} (ps : List Nat) (hp : ws = ps.filterMap (fun i => lw_tbl[i]?)) (h : ws.all goodWord = true) : ∀ w ∈ ws, w ∈ Tg := fun w hw => List.mem_filter.mpr ⟨(goodIn_r (big := lw_tbl) ws ps hp h w hw).1, List.all_eq_true.mp h w hw⟩
theorem zu0 : ∀ w ∈ u_ws RX0 TX0 10, w ∈ Tg := zTgs [327, 329, 331, 333, 335, 337, 339, 341, 343, 345] (by decide +kernel) (by decide +kernel)
theorem zu1 : ∀ w ∈ u_ws RX1 TX1 8, w ∈ Tg := zTgs [364, 366, 368, 370, 372, 374, 376, 378] (by decide +kernel) (by decide +kernel)
theorem zu2 : ∀ w ∈ u_ws RX2 TX2 3, w ∈ Tg := zTgs [160, 162, 164] (by decide +kernel) (by decide +kernel)
theorem zu3 : ∀ w ∈ u_ws RX3 TX3 5, w ∈ Tg := zTgs [300, 302, 304, 306, 308] (by decide +kernel) (by decide +kernel)
theorem zu4 : ∀ w ∈ u_ws RX4 TX4 9, w ∈ Tg := zTgs [493, 495, 497, 499, 501, 503, 505, 507, 509] (by decide +kernel) (by decide +kernel)
theorem zu5 : ∀ w ∈ u_ws RX5 TX5 4, w ∈ Tg := zTgs [181, 183, 185, 187] (by decide +kernel) (by decide +kernel)
theorem zu6 : ∀ w ∈ u_ws RX6 TX6 13, w ∈ Tg := zTgs [214, 216, 218, 220, 222, 224, 226, 228, 230, 232, 234, 236, 238] (by decide +kernel) (by decide +kernel)
theorem zu7 : ∀ w ∈ u_ws RX7 TX7 6, w ∈ Tg := zTgs [424, 426, 428, 430, 432, 434] (by decide +kernel) (by decide +kernel)
theorem zu8 : ∀ w ∈ u_ws RX8 TX8 11, w ∈ Tg := zTgs [260, 262, 264, 266, 268, 270, 272, 274, 276, 278, 280] (by decide +kernel) (by decide +kernel)
theorem zu9 : ∀ w ∈ u_ws RX9 TX9 6, w ∈ Tg := zTgs [397, 399, 401, 403, 405, 407] (by decide +kernel) (by decide +kernel)
theorem zu10 : ∀ w ∈ u_ws RX10 TX10 9, w ∈ Tg := zTgs [464, 466, 468, 470, 472, 474, 476, 478, 480] (by decide +kernel) (by decide +kernel)
theorem zu11 : ∀ w ∈ u_ws RX11 TX11 10, w ∈ Tg := zTgs [612, 614, 616, 618, 620, 622, 624, 626, 628, 630] (by decide +kernel) (by decide +kernel)
theorem zu12 : ∀ w ∈ u_ws RX12 TX12 62, w ∈ Tg := zTgs [1400, 1402, 1404, 1406, 1408, 1410, 1412, 1414, 1416, 1418, 1420, 1422, 1424, 1426, 1428, 1430, 1432, 1434, 1436, 1438, 1440, 1442, 1444, 1446, 1448, 1450, 1452, 1454, 1456, 1458, 1460, 1462, 1464, 1466, 1468, 1470, 1472, 1474, 1476, 1478, 1480, 1482, 1484, 1486, 1488, 1490, 1492, 1494, 1496, 1498, 1500, 1502, 1504, 1506, 1508, 1510, 1512, 1514, 1516, 1518, 1520, 1522] (by decide +kernel) (by decide +kernel)
theorem zCl : ∀ (ci : Nat) (q : vw_C), vwCl[ci]? = some q → (∀ w ∈ u_ws q.1 q.2.1 q.2.2, w ∈ Tg) ∧ ∃ ty : Nat → FieldType, (∀ k, k < q.2.2 → parseFieldDescriptor (q.2.1 k).2.2.1 = some (ty k)) ∧ ∀ a, a < q.2.2 → ∀ b, b < q.2.2 → a ≠ b → (q.2.1 a).2.1 ≠ (q.2.1 b).2.1 := by
  intro ci q hq
  match ci, hq with
  | 0, hq => cases hq; exact ⟨zu0, tyX0, tyX0_ok, nmX0⟩
  | 1, hq => cases hq; exact ⟨zu1, tyX1, tyX1_ok, nmX1⟩
  | 2, hq => cases hq; exact ⟨zu2, tyX2, tyX2_ok, nmX2⟩
  | 3, hq => cases hq; exact ⟨zu3, tyX3, tyX3_ok, nmX3⟩
  | 4, hq => cases hq; exact ⟨zu4, tyX4, tyX4_ok, nmX4⟩
  | 5, hq => cases hq; exact ⟨zu5, tyX5, tyX5_ok, nmX5⟩
  | 6, hq => cases hq; exact ⟨zu6, tyX6, tyX6_ok, nmX6⟩
  | 7, hq => cases hq; exact ⟨zu7, tyX7, tyX7_ok, nmX7⟩
  | 8, hq => cases hq; exact ⟨zu8, tyX8, tyX8_ok, nmX8⟩
  | 9, hq => cases hq; exact ⟨zu9, tyX9, tyX9_ok, nmX9⟩
  | 10, hq => cases hq; exact ⟨zu10, tyX10, tyX10_ok, nmX10⟩
  | 11, hq => cases hq; exact ⟨zu11, tyX11, tyX11_ok, nmX11⟩
  | 12, hq => cases hq; exact ⟨zu12, tyX12, tyX12_ok, nmX12⟩
  | n + 13, hq => simp [vwCl] at hq
theorem zmx : Cond.code Lib.Math.max.name Lib.Math.max.code 2 (some .int) ∈ Tg := zTg (i := 1018) (by decide +kernel) (by decide +kernel)
theorem zmn : Cond.code Lib.Math.min.name Lib.Math.min.code 2 (some .int) ∈ Tg := zTg (i := 1025) (by decide +kernel) (by decide +kernel)
theorem zmb : Cond.code Lib.Math.abs.name Lib.Math.abs.code 1 (some .int) ∈ Tg := zTg (i := 1090) (by decide +kernel) (by decide +kernel)
/-! fields, arrays, calls, ends -/
def zF (own : String) (index ci k : Nat) : Prop := ∃ (C : String) (T : u_T) (N : Nat), vwCl[ci]? = some (C, T, N) ∧ k < N ∧ (T k).1 = C ∧ (Cond.fieldLink own index C (T k).2.1 (T k).2.2.1 ∈ Tg ∨ ∃ host : String, Cond.fieldLinkNest own index C (T k).2.1 (T k).2.2.1 host ∈ Tn)
def zFp (own : String) (index ci k : Nat) (ty : FieldType) : Prop := ∃ (C : String) (T : u_T) (N : Nat), vwCl[ci]? = some (C, T, N) ∧ k < N ∧ (T k).1 = C ∧ (T k).2.2.2 = false ∧ parseFieldDescriptor (T k).2.2.1 = some ty ∧ (Cond.fieldLink own index C (T k).2.1 (T k).2.2.1 ∈ Tg ∨ ∃ host : String, Cond.fieldLinkNest own index C (T k).2.1 (T k).2.2.1 host ∈ Tn)
theorem zlook {fr : List (Option Nat)} {ad : Nat → Nat} {h : HS} {c k : Nat} {o : Option Nat} (hf : fr[k]? = some o) : (fr.mapIdx (zfv ad h c))[k]? = some (zfv ad h c k o) := by
  simp [List.getElem?_mapIdx, hf]
theorem zput {fr : List (Option Nat)} {ad : Nat → Nat} {h : HS} {c k : Nat} {v : Int} (hf : fr[k]? = some none) : (fr.mapIdx (zfv ad h c)).set k (.int (Int32.ofInt v)) = fr.mapIdx (zfv ad (up h c (k : Int) v) c) := by
  apply List.ext_getElem?
  intro j
  rw [List.getElem?_set]
  by_cases e : k = j
  · subst e
    have hl := (List.getElem?_eq_some_iff.mp hf).1
    rw [if_pos rfl, if_pos (by simpa using hl), List.getElem?_mapIdx, hf]
    show some _ = some (Value.int (Int32.ofInt (up h c (k : Int) v c (k : Int))))
    rw [up_eq]
  · rw [if_neg e, List.getElem?_mapIdx, List.getElem?_mapIdx]
    congr 1
    funext o
    cases o with
    | some q => rfl
    | none =>
      show Value.int (Int32.ofInt (h c (j : Int))) = Value.int (Int32.ofInt (up h c (k : Int) v c (j : Int)))
      rw [up_same, if_neg (by omega)]
theorem conc_D {σ : List SC} {ad : Nat → Nat} {cA : FieldType → ClassId} {h h' : HS} {A : Nat → Prop} (hD : va_D A (conc σ ad cA h)) : va_D A (conc σ ad cA h') := by
  have key : ∀ (k : Nat) (q : Nat × va_E), (conc σ ad cA h')[k]? = some q → ∃ q2, (conc σ ad cA h)[k]? = some q2 ∧ q2.1 = q.1 := by
    intro k q hk
    cases hs : σ[k]? with
    | none => simp [conc, List.getElem?_mapIdx, hs] at hk
    | some r =>
      rw [conc_at hs] at hk
      cases hk
      exact ⟨_, conc_at hs, rfl⟩
  refine ⟨fun i j p q hi hj e => ?_, fun k q hk => ?_⟩
  · obtain ⟨p2, a1, a2⟩ := key i p hi
    obtain ⟨q2, b1, b2⟩ := key j q hj
    exact hD.1 i j p2 q2 a1 b1 (by rw [a2, b2, e])
  · obtain ⟨q2, b1, b2⟩ := key k q hk
    rw [← b2]
    exact hD.2 k q2 b1
theorem zX.kept {ad : Nat → Nat} {A : Nat → Prop} {s U : State} {H : Heap} (h : zX ad A s s.heap) (hS : ∀ q : Nat, q < s.heap.size → ¬ A q → H[q]? = s.heap[q]?) (hU : U.heap = H) (hW : s.WarmedH U.vm) : zX ad A U U.heap := by
  refine ⟨?_, fun i q hq => (h.2.1 i q hq).warm hW, fun w hw => zTn_warm hw hW (h.2.2.1 w hw), by rw [hU]; exact zSt_to h.2.2.2 hW.alike hS⟩
  rw [hU]
  exact (h.1.kept hS).moved hW.alike
theorem zX.same {ad : Nat → Nat} {A : Nat → Prop} {U V : State} (h : zX ad A U U.heap) (e1 : V.vm = U.vm) (e2 : V.heap = U.heap) : zX ad A V V.heap := by
  refine ⟨?_, fun i q hq => (h.2.1 i q hq).same e1, fun w hw => va_Nw.same (zTn_on hw) e1.symm (h.2.2.1 w hw), by rw [e2]; exact zSt_to h.2.2.2 (by rw [e1]; exact Vm.Alike.refl U.vm) (fun _ _ _ => rfl)⟩
  rw [e2]
  exact h.1.moved (by rw [e1]; exact Vm.Alike.refl U.vm)
section ZM
variable {z : Zt} {cc : ByteArray} {own : String} {d : Nat} {σ0 : List SC} {pc : Nat} {l l' : List (Nat × AV)} {st : List AV} {h : HS}
theorem s_getI {c ci index : Nat} {fr : List (Option Nat)} {kz : Int} (kf : Nat) (hz : zO z cc own d σ0) (hF : zF own index ci kf) (hc : σ0[c]? = some (.inr (ci, fr))) (hf : fr[kf]? = some none) (hkz : (kf : Int) = kz) (hd : decode cc pc = .ok (.getfield index, 3)) (k : zA z (pc + 3) l (aI (h c kz) :: st) h) : zA z pc l (aR c :: st) h := by
  obtain ⟨p, lc, e, R, s, m, args, below, meth, c0, cells, slots, Q, σ, ad, D, cA, A⟩ := z
  obtain ⟨hx, hb, hown, hts, hK, hσ, hX, -⟩ := hz
  obtain ⟨C, T, N, hcl, hk, hC, hl⟩ := hF
  obtain ⟨hu, -⟩ := zCl _ _ hcl
  subst hkz
  intro H locs ls hv hP hD hS
  have he := conc_at (ad := ad) (cA := cA) (h := h) (hσ _ _ hc)
  rcases hl with hl | ⟨host, hl⟩
  · exact va_get hx hb hts hu hown hK hP c he hcl kf hk (hts _ hl) (fun x hx => by rw [hC] at hx; exact hx) (zlook hf) hd (k H locs ls hv hP hD hS)
  · exact va_getN hx hb hts hu hown hK hP c he hcl kf hk (va_Nw.use rfl (hX.2.2.1 _ hl)) (fun x hx => by rw [hC] at hx; exact hx) (zlook hf) hd (k H locs ls hv hP hD hS)
theorem s_getR {c ci index r : Nat} {fr : List (Option Nat)} (kf : Nat) (hz : zO z cc own d σ0) (hF : zF own index ci kf) (hc : σ0[c]? = some (.inr (ci, fr))) (hf : fr[kf]? = some (some r)) (hr : r ≠ 998) (hd : decode cc pc = .ok (.getfield index, 3)) (k : zA z (pc + 3) l (aR r :: st) h) : zA z pc l (aR c :: st) h := by
  obtain ⟨p, lc, e, R, s, m, args, below, meth, c0, cells, slots, Q, σ, ad, D, cA, A⟩ := z
  obtain ⟨hx, hb, hown, hts, hK, hσ, hX, -⟩ := hz
  obtain ⟨C, T, N, hcl, hk, hC, hl⟩ := hF
  obtain ⟨hu, -⟩ := zCl _ _ hcl
  intro H locs ls hv hP hD hS
  have hv2 := zlook (ad := ad) (h := h) (c := c) hf
  have e2 : zfv ad h c kf (some r) = .ref (ad r) := if_neg hr
  rw [e2] at hv2
  have he := conc_at (ad := ad) (cA := cA) (h := h) (hσ _ _ hc)
  rcases hl with hl | ⟨host, hl⟩
  · exact va_get hx hb hts hu hown hK hP c he hcl kf hk (hts _ hl) (fun x hx => by rw [hC] at hx; exact hx) hv2 hd (k H locs ls hv hP hD hS)
  · exact va_getN hx hb hts hu hown hK hP c he hcl kf hk (va_Nw.use rfl (hX.2.2.1 _ hl)) (fun x hx => by rw [hC] at hx; exact hx) hv2 hd (k H locs ls hv hP hD hS)
theorem s_putG {c ci index : Nat} {fr : List (Option Nat)} {kz v : Int} {ty : FieldType} (kf : Nat) (hz : zO z cc own d σ0) (hF : zFp own index ci kf ty) (hn : narrow ty (.int (Int32.ofInt v)) = .int (Int32.ofInt v)) (hfit : fits ty (.int (Int32.ofInt v)) = true) (hc : σ0[c]? = some (.inr (ci, fr))) (hf : fr[kf]? = some none) (hkz : (kf : Int) = kz) (hd : decode cc pc = .ok (.putfield index, 3)) (k : zA z (pc + 3) l st (up h c kz v)) : zA z pc l (aI v :: aR c :: st) h := by
  obtain ⟨p, lc, e, R, s, m, args, below, meth, c0, cells, slots, Q, σ, ad, D, cA, A⟩ := z
  obtain ⟨hx, hb, hown, hts, hK, hσ, hX, -⟩ := hz
  obtain ⟨C, T, N, hcl, hk, hC, hfin, hty, hl⟩ := hF
  obtain ⟨hu, ty0, hty0, hnm⟩ := zCl _ _ hcl
  subst hkz
  intro H locs ls hv hP hD hS
  have hc2 := hσ _ _ hc
  have he := conc_at (ad := ad) (cA := cA) (h := h) hc2
  have hset := conc_set (σ := σ) (ad := ad) (cA := cA) (h := h) (h' := up h c (kf : Int) v) hc2 (fun k hk => funext fun i => up_cell h hk _ _ _)
  have hcell : cellOf ad cA (up h c (kf : Int) v) c (.inr (ci, fr)) = .inr (ci, (fr.mapIdx (zfv ad h c)).set kf (.int (Int32.ofInt v))) := by
    rw [zput hf]
    rfl
  rw [hcell] at hset
  have hlen : kf < (fr.mapIdx (zfv ad h c)).length := by
    simpa using (List.getElem?_eq_some_iff.mp hf).1
  rcases hl with hl | ⟨host, hl⟩
  · refine va_put hx hb hts hu ty0 hty0 hnm hown hK hP hD hS c he hcl kf hk (hts _ hl) (fun x hx => by rw [hC] at hx; exact hx) hfin hty hn hfit hlen hd (fun H1 locs1 hP hD hS => ?_)
    have hP : va_P D vwCl ((conc σ ad cA h).set c (ad c, .inr (ci, (fr.mapIdx (zfv ad h c)).set kf (.int (Int32.ofInt v))))) H1 := hP
    have hD : va_D A ((conc σ ad cA h).set c (ad c, .inr (ci, (fr.mapIdx (zfv ad h c)).set kf (.int (Int32.ofInt v))))) := hD
    rw [hset] at hP hD
    exact k H1 locs1 ls hv hP hD hS
  · refine va_putN hx hb hts hu ty0 hty0 hnm hown hK hP hD hS c he hcl kf hk (va_Nw.use rfl (hX.2.2.1 _ hl)) (fun x hx => by rw [hC] at hx; exact hx) hfin hty hn hfit hlen hd (fun H1 locs1 hP hD hS => ?_)
    have hP : va_P D vwCl ((conc σ ad cA h).set c (ad c, .inr (ci, (fr.mapIdx (zfv ad h c)).set kf (.int (Int32.ofInt v))))) H1 := hP
    have hD : va_D A ((conc σ ad cA h).set c (ad c, .inr (ci, (fr.mapIdx (zfv ad h c)).set kf (.int (Int32.ofInt v))))) := hD
    rw [hset] at hP hD
    exact k H1 locs1 ls hv hP hD hS
theorem s_putI {c ci index : Nat} {fr : List (Option Nat)} {kz v : Int} (kf : Nat) (hz : zO z cc own d σ0) (hF : zFp own index ci kf .int) (hc : σ0[c]? = some (.inr (ci, fr))) (hf : fr[kf]? = some none) (hkz : (kf : Int) = kz) (hd : decode cc pc = .ok (.putfield index, 3)) (k : zA z (pc + 3) l st (up h c kz v)) : zA z pc l (aI v :: aR c :: st) h :=
  s_putG kf hz hF rfl rfl hc hf hkz hd k
theorem z_nZ {v : Int} (hv : v = 0 ∨ v = 1) : narrow .boolean (.int (Int32.ofInt v)) = .int (Int32.ofInt v) ∧ fits .boolean (.int (Int32.ofInt v)) = true ∧ vp_nar .boolean (Int32.ofInt v) = Int32.ofInt v := by
  rcases hv with rfl | rfl <;> exact ⟨rfl, rfl, rfl⟩
theorem z_nC {v : Int} (h0 : 0 ≤ v) (h1 : v < 65536) : narrow .char (.int (Int32.ofInt v)) = .int (Int32.ofInt v) ∧ fits .char (.int (Int32.ofInt v)) = true ∧ vp_nar .char (Int32.ofInt v) = Int32.ofInt v := by
  obtain ⟨n, rfl⟩ : ∃ n : Nat, v = (n : Int) := ⟨v.toNat, by omega⟩
  have e : Int32.ofInt (n : Int) = nI n := rfl
  have hn : n < 65536 := by omega
  rw [e]
  obtain ⟨g1, g2⟩ := pk_charN hn
  refine ⟨g1, g2, ?_⟩
  unfold vp_nar
  rw [g1]
theorem s_putZ {c ci index : Nat} {fr : List (Option Nat)} {kz v : Int} (kf : Nat) (hz : zO z cc own d σ0) (hF : zFp own index ci kf .boolean) (h01 : v = 0 ∨ v = 1) (hc : σ0[c]? = some (.inr (ci, fr))) (hf : fr[kf]? = some none) (hkz : (kf : Int) = kz) (hd : decode cc pc = .ok (.putfield index, 3)) (k : zA z (pc + 3) l st (up h c kz v)) : zA z pc l (aI v :: aR c :: st) h :=
  s_putG kf hz hF (z_nZ h01).1 (z_nZ h01).2.1 hc hf hkz hd k
theorem zfn {h : HS} {c : Nat} {i : Int} (h0 : 0 ≤ i) : (fun j : Nat => Int32.ofInt (h c (j : Int))) i.toNat = Int32.ofInt (h c i) := by
  show Int32.ofInt (h c (i.toNat : Int)) = _
  rw [Int.toNat_of_nonneg h0]
theorem zfnL {h : HS} {c : Nat} {i : Int} (h0 : 0 ≤ i) : (fun j : Nat => Int64.ofInt (h c (j : Int))) i.toNat = Int64.ofInt (h c i) := by
  show Int64.ofInt (h c (i.toNat : Int)) = _
  rw [Int.toNat_of_nonneg h0]
theorem s_iald {c n : Nat} {nz i : Int} (hz : zO z cc own d σ0) (hc : σ0[c]? = some (.inl (.int, n))) (hnz : (n : Int) = nz) (hnb : n < 2147483648) (hi : 0 ≤ i ∧ i < nz) (hd : decode cc pc = .ok (.iaload, 1)) (k : zA z (pc + 1) l (aI (h c i) :: st) h) : zA z pc l (aI i :: aR c :: st) h := by
  obtain ⟨p, lc, e, R, s, m, args, below, meth, c0, cells, slots, Q, σ, ad, D, cA, A⟩ := z
  obtain ⟨hx, hb, hown, hts, hK, hσ, -⟩ := hz
  subst hnz
  obtain ⟨hr, hin⟩ := z_in hi.1 hi.2 hnb
  intro H locs ls hv hP hD hS
  refine va_iald hx hb hK hP c 0 (conc_at (hσ _ _ hc)) rfl hin hd ?_
  rw [z_cl hr, Int.toNat_of_nonneg hi.1]
  exact k H locs ls hv hP hD hS
theorem s_zald {c n : Nat} {nz i : Int} (hz : zO z cc own d σ0) (hc : σ0[c]? = some (.inl (.boolean, n))) (hnz : (n : Int) = nz) (hnb : n < 2147483648) (hi : 0 ≤ i ∧ i < nz) (hd : decode cc pc = .ok (.baload, 1)) (k : zA z (pc + 1) l (aI (h c i) :: st) h) : zA z pc l (aI i :: aR c :: st) h := by
  obtain ⟨p, lc, e, R, s, m, args, below, meth, c0, cells, slots, Q, σ, ad, D, cA, A⟩ := z
  obtain ⟨hx, hb, hown, hts, hK, hσ, -⟩ := hz
  subst hnz
  obtain ⟨hr, hin⟩ := z_in hi.1 hi.2 hnb
  intro H locs ls hv hP hD hS
  refine va_zald hx hb hK hP c 2 (conc_at (hσ _ _ hc)) rfl hin hd ?_
  rw [z_cl hr, Int.toNat_of_nonneg hi.1]
  exact k H locs ls hv hP hD hS
theorem s_cald {c n : Nat} {nz i : Int} (hz : zO z cc own d σ0) (hc : σ0[c]? = some (.inl (.char, n))) (hnz : (n : Int) = nz) (hnb : n < 2147483648) (hi : 0 ≤ i ∧ i < nz) (hd : decode cc pc = .ok (.caload, 1)) (k : zA z (pc + 1) l (aI (h c i) :: st) h) : zA z pc l (aI i :: aR c :: st) h := by
  obtain ⟨p, lc, e, R, s, m, args, below, meth, c0, cells, slots, Q, σ, ad, D, cA, A⟩ := z
  obtain ⟨hx, hb, hown, hts, hK, hσ, -⟩ := hz
  subst hnz
  obtain ⟨hr, hin⟩ := z_in hi.1 hi.2 hnb
  intro H locs ls hv hP hD hS
  refine va_cald hx hb hK hP c 3 (conc_at (hσ _ _ hc)) rfl hin hd ?_
  rw [z_cl hr, Int.toNat_of_nonneg hi.1]
  exact k H locs ls hv hP hD hS
theorem s_lald {c n : Nat} {nz i : Int} (hz : zO z cc own d σ0) (hc : σ0[c]? = some (.inl (.long, n))) (hnz : (n : Int) = nz) (hnb : n < 2147483648) (hi : 0 ≤ i ∧ i < nz) (hd : decode cc pc = .ok (.laload, 1)) (k : zA z (pc + 1) l (aL (h c i) :: st) h) : zA z pc l (aI i :: aR c :: st) h := by
  obtain ⟨p, lc, e, R, s, m, args, below, meth, c0, cells, slots, Q, σ, ad, D, cA, A⟩ := z
  obtain ⟨hx, hb, hown, hts, hK, hσ, -⟩ := hz
  subst hnz
  obtain ⟨hr, hin⟩ := z_in hi.1 hi.2 hnb
  intro H locs ls hv hP hD hS
  refine va_lald hx hb hK hP c 1 (conc_at (hσ _ _ hc)) rfl hin hd ?_
  rw [z_cl hr, Int.toNat_of_nonneg hi.1]
  exact k H locs ls hv hP hD hS
theorem s_iast {c n : Nat} {nz i v : Int} (hz : zO z cc own d σ0) (hc : σ0[c]? = some (.inl (.int, n))) (hnz : (n : Int) = nz) (hnb : n < 2147483648) (hi : 0 ≤ i ∧ i < nz) (hd : decode cc pc = .ok (.iastore, 1)) (k : zA z (pc + 1) l st (up h c i v)) : zA z pc l (aI v :: aI i :: aR c :: st) h := by
  obtain ⟨p, lc, e, R, s, m, args, below, meth, c0, cells, slots, Q, σ, ad, D, cA, A⟩ := z
  obtain ⟨hx, hb, hown, hts, hK, hσ, -⟩ := hz
  subst hnz
  obtain ⟨hr, hin⟩ := z_in hi.1 hi.2 hnb
  intro H locs ls hv hP hD hS
  have hc2 := hσ _ _ hc
  have hset := conc_set (σ := σ) (ad := ad) (cA := cA) (h := h) (h' := up h c i v) hc2 (fun k hk => funext fun i => up_cell h hk _ _ _)
  refine va_iast hx hb hK hP hD hS c 0 (conc_at hc2) rfl hin hd (fun H1 locs1 hP hD hS => ?_)
  rw [z_cl hr, ← up_fn hi.1 hi.2] at hP hD
  have hP : va_P D vwCl ((conc σ ad cA h).set c (ad c, cellOf ad cA (up h c i v) c (.inl (.int, n)))) H1 := hP
  have hD : va_D A ((conc σ ad cA h).set c (ad c, cellOf ad cA (up h c i v) c (.inl (.int, n)))) := hD
  rw [hset] at hP hD
  exact k H1 locs1 ls hv hP hD hS
theorem s_zast {c n : Nat} {nz i v : Int} (hz : zO z cc own d σ0) (hc : σ0[c]? = some (.inl (.boolean, n))) (hnz : (n : Int) = nz) (hnb : n < 2147483648) (hi : 0 ≤ i ∧ i < nz) (h01 : v = 0 ∨ v = 1) (hd : decode cc pc = .ok (.bastore, 1)) (k : zA z (pc + 1) l st (up h c i v)) : zA z pc l (aI v :: aI i :: aR c :: st) h := by
  obtain ⟨p, lc, e, R, s, m, args, below, meth, c0, cells, slots, Q, σ, ad, D, cA, A⟩ := z
  obtain ⟨hx, hb, hown, hts, hK, hσ, -⟩ := hz
  subst hnz
  obtain ⟨hr, hin⟩ := z_in hi.1 hi.2 hnb
  intro H locs ls hv hP hD hS
  have hc2 := hσ _ _ hc
  have hset := conc_set (σ := σ) (ad := ad) (cA := cA) (h := h) (h' := up h c i v) hc2 (fun k hk => funext fun i => up_cell h hk _ _ _)
  refine va_zast hx hb hK hP hD hS c 2 (conc_at hc2) rfl hin hd (fun H1 locs1 hP hD hS => ?_)
  rw [(z_nZ h01).2.2, z_cl hr, ← up_fn hi.1 hi.2] at hP hD
  have hP : va_P D vwCl ((conc σ ad cA h).set c (ad c, cellOf ad cA (up h c i v) c (.inl (.boolean, n)))) H1 := hP
  have hD : va_D A ((conc σ ad cA h).set c (ad c, cellOf ad cA (up h c i v) c (.inl (.boolean, n)))) := hD
  rw [hset] at hP hD
  exact k H1 locs1 ls hv hP hD hS
theorem s_cast {c n : Nat} {nz i v : Int} (hz : zO z cc own d σ0) (hc : σ0[c]? = some (.inl (.char, n))) (hnz : (n : Int) = nz) (hnb : n < 2147483648) (hi : 0 ≤ i ∧ i < nz) (h01 : 0 ≤ v ∧ v < 65536) (hd : decode cc pc = .ok (.castore, 1)) (k : zA z (pc + 1) l st (up h c i v)) : zA z pc l (aI v :: aI i :: aR c :: st) h := by
  obtain ⟨p, lc, e, R, s, m, args, below, meth, c0, cells, slots, Q, σ, ad, D, cA, A⟩ := z
  obtain ⟨hx, hb, hown, hts, hK, hσ, -⟩ := hz
  subst hnz
  obtain ⟨hr, hin⟩ := z_in hi.1 hi.2 hnb
  intro H locs ls hv hP hD hS
  have hc2 := hσ _ _ hc
  have hset := conc_set (σ := σ) (ad := ad) (cA := cA) (h := h) (h' := up h c i v) hc2 (fun k hk => funext fun i => up_cell h hk _ _ _)
  refine va_cast hx hb hK hP hD hS c 3 (conc_at hc2) rfl hin hd (fun H1 locs1 hP hD hS => ?_)
  rw [(z_nC h01.1 h01.2).2.2, z_cl hr, ← up_fn hi.1 hi.2] at hP hD
  have hP : va_P D vwCl ((conc σ ad cA h).set c (ad c, cellOf ad cA (up h c i v) c (.inl (.char, n)))) H1 := hP
  have hD : va_D A ((conc σ ad cA h).set c (ad c, cellOf ad cA (up h c i v) c (.inl (.char, n)))) := hD
  rw [hset] at hP hD
  exact k H1 locs1 ls hv hP hD hS
theorem s_last {c n : Nat} {nz i v : Int} (hz : zO z cc own d σ0) (hc : σ0[c]? = some (.inl (.long, n))) (hnz : (n : Int) = nz) (hnb : n < 2147483648) (hi : 0 ≤ i ∧ i < nz) (hd : decode cc pc = .ok (.lastore, 1)) (k : zA z (pc + 1) l st (up h c i v)) : zA z pc l (aL v :: aI i :: aR c :: st) h := by
  obtain ⟨p, lc, e, R, s, m, args, below, meth, c0, cells, slots, Q, σ, ad, D, cA, A⟩ := z
  obtain ⟨hx, hb, hown, hts, hK, hσ, -⟩ := hz
  subst hnz
  obtain ⟨hr, hin⟩ := z_in hi.1 hi.2 hnb
  intro H locs ls hv hP hD hS
  have hc2 := hσ _ _ hc
  have hset := conc_set (σ := σ) (ad := ad) (cA := cA) (h := h) (h' := up h c i v) hc2 (fun k hk => funext fun i => up_cell h hk _ _ _)
  refine va_last hx hb hK hP hD hS c 1 (conc_at hc2) rfl hin hd (fun H1 locs1 hP hD hS => ?_)
  rw [z_cl hr, ← up_fnL hi.1 hi.2] at hP hD
  have hP : va_P D vwCl ((conc σ ad cA h).set c (ad c, cellOf ad cA (up h c i v) c (.inl (.long, n)))) H1 := hP
  have hD : va_D A ((conc σ ad cA h).set c (ad c, cellOf ad cA (up h c i v) c (.inl (.long, n)))) := hD
  rw [hset] at hP hD
  exact k H1 locs1 ls hv hP hD hS
theorem zty (t : FieldType) (cA : FieldType → ClassId) (ht : t = .int ∨ t = .long ∨ t = .boolean ∨ t = .char) : ∃ t0 : Nat, (zTy cA)[t0]? = some (cA t, t) := by
  rcases ht with rfl | rfl | rfl | rfl
  · exact ⟨0, rfl⟩
  · exact ⟨1, rfl⟩
  · exact ⟨2, rfl⟩
  · exact ⟨3, rfl⟩
theorem s_alen {c n : Nat} {nz : Int} {t : FieldType} (hz : zO z cc own d σ0) (hc : σ0[c]? = some (.inl (t, n))) (ht : t = .int ∨ t = .long ∨ t = .boolean ∨ t = .char) (hnz : (n : Int) = nz) (hd : decode cc pc = .ok (.arraylength, 1)) (k : zA z (pc + 1) l (aI nz :: st) h) : zA z pc l (aR c :: st) h := by
  obtain ⟨p, lc, e, R, s, m, args, below, meth, c0, cells, slots, Q, σ, ad, D, cA, A⟩ := z
  obtain ⟨hx, hb, hown, hts, hK, hσ, -⟩ := hz
  subst hnz
  obtain ⟨t0, ht0⟩ := zty t cA ht
  intro H locs ls hv hP hD hS
  exact va_alen hx hb hK hP c t0 (conc_at (hσ _ _ hc)) ht0 rfl hd (k H locs ls hv hP hD hS)
end ZM
/-! contracts: a method that answers an int (boolean, char), one that answers nothing -/
def zPc (σ : List SC) (ad : Nat → Nat) (D : va_G) (cA : FieldType → ClassId) (A : Nat → Prop) (args : List AV) (h : HS) : Array Value → State → Prop := va_Pc (args.map (cv ad)) (fun U => va_P D vwCl (conc σ ad cA h) U.heap ∧ va_K D vwCl (zTy cA) U ∧ va_D A (conc σ ad cA h) ∧ zX ad A U U.heap)
def zRm (d : Nat) : Room := { frames := d, cells := 0, slots := 0, locals := 60 * d }
def zR (σ0 : List SC) (y : MethodName) (cy : ByteArray) (mL : Nat) (ty : FieldType) (d : Nat) (args : List AV) (h : HS) (r : Int) (h' : HS) : Prop :=
  ∀ (lc : Launch) (σ : List SC) (ad : Nat → Nat) (D : va_G) (cA : FieldType → ClassId) (A : Nat → Prop), (∀ (k : Nat) (q : SC), σ0[k]? = some q → σ[k]? = some q) → Met lc y (Cond.code y cy mL (some ty) :: Tg) (zRm d) (zPc σ ad D cA A args h) (va_Qi (fun (v : Int32) (_ : Unit) => v = Int32.ofInt r ∧ rng r ∧ WR σ0 h') (fun _ t => va_P D vwCl (conc σ ad cA h') t.heap) A) 0 0 A
def zV (σ0 : List SC) (y : MethodName) (cy : ByteArray) (mL : Nat) (d : Nat) (args : List AV) (h h' : HS) : Prop :=
  ∀ (lc : Launch) (σ : List SC) (ad : Nat → Nat) (D : va_G) (cA : FieldType → ClassId) (A : Nat → Prop), (∀ (k : Nat) (q : SC), σ0[k]? = some q → σ[k]? = some q) → Met lc y (Cond.code y cy mL none :: Tg) (zRm d) (zPc σ ad D cA A args h) (va_Qv (fun (_ : Unit) => WR σ0 h') (fun _ t => va_P D vwCl (conc σ ad cA h') t.heap) A) 0 0 A
def zFi (z : Zt) (σ0 : List SC) (ty : FieldType) (r : Int) (h' : HS) : Prop := match z with
  | (_, _, _, _, s, _, args, below, meth, _, cells, slots, Q, σ, ad, D, cA, A) => meth.sig.returnType = some ty ∧ meth.locks = false ∧ cells = 0 ∧ slots = 0 ∧ Q = MQ below (va_Qi (fun (v : Int32) (_ : Unit) => v = Int32.ofInt r ∧ rng r ∧ WR σ0 h') (fun _ t => va_P D vwCl (conc σ ad cA h') t.heap) A) args s 0 0 A
def zFv (z : Zt) (σ0 : List SC) (h' : HS) : Prop := match z with
  | (_, _, _, _, s, _, args, below, meth, _, cells, slots, Q, σ, ad, D, cA, A) => meth.sig.returnType = none ∧ meth.locks = false ∧ cells = 0 ∧ slots = 0 ∧ Q = MQ below (va_Qv (fun (_ : Unit) => WR σ0 h') (fun _ t => va_P D vwCl (conc σ ad cA h') t.heap) A) args s 0 0 A
def lvA : Nat → List AV → List (Nat × AV)
  | _, [] => []
  | i, v :: vs => (i, v) :: lvA (if avc v = 2 then i + 2 else i + 1) vs
theorem lvA_map (ad : Nat → Nat) : ∀ (i : Nat) (vs : List AV), lv_args i (vs.map (cv ad)) = (lvA i vs).map (fun q => (q.1, cv ad q.2))
  | _, [] => rfl
  | i, v :: vs => by
    rw [List.map_cons]
    show (i, cv ad v) :: lv_args (if (cv ad v).category = 2 then i + 2 else i + 1) (vs.map (cv ad)) = _
    rw [avc_cv, lvA_map ad _ vs]
    rfl
theorem lvA_len (ad : Nat → Nat) : ∀ vs : List AV, (lg_sl (vs.map (cv ad))).length = (vs.map avc).sum
  | [] => rfl
  | v :: vs => by
    have ih := lvA_len ad vs
    unfold lg_sl at ih ⊢
    rw [List.map_cons, List.flatMap_cons, List.length_append, ih, List.map_cons, List.sum_cons, avc_cv]
    rcases v with k | z | z <;> simp [avc]
theorem zR_of {σ0 : List SC} {y : MethodName} {cy : ByteArray} {mL : Nat} {ty : FieldType} {d : Nat} {args : List AV} {h : HS} {r : Int} {h' : HS} (hy : plainName y.cls = true) (hlen : (args.map avc).sum ≤ mL) (K : ∀ z : Zt, zO z cy y.cls d σ0 → zN z mL → zFi z σ0 ty r h' → zA z 0 (lvA 0 args) [] h) : zR σ0 y cy mL ty d args h r h' := by
  intro lc σ ad D cA A hσ
  refine Met.ofW (cc := cy) (maxL := mL) (ret := some ty) hy rfl ?_
  intro p e s m args' below meth c s₁ B hml hv
  obtain ⟨rfl, hP, hK, hD, hX⟩ := hv
  have hts := atoms_spec (ws := Cond.code y cy mL (some ty) :: Tg) B.pre
  have hown : s.vm.findClass y.cls = some m.cls := findClass_of_methodNamed B.named
  have hl := lv_entry (args.map (cv ad)) (n := mL) (by rw [lvA_len]; exact hlen)
  rw [lg_entry_eq]
  generalize (lg_sl (args.map (cv ad)) ++ List.replicate (mL - (lg_sl (args.map (cv ad))).length) Slot.unset).toArray = ls at hl ⊢
  rw [lvA_map] at hl
  refine K (p, lc, e, _, s, m, _, below, meth, c, 0, 0, _, σ, ad, D, cA, A) ⟨B.exec, B.bytes, hown, fun w hw => hts w (List.mem_cons_of_mem _ hw), hK, hσ, hX, Nat.le_refl _, Nat.le_refl _, Nat.zero_le _, Nat.zero_le _⟩ hml ⟨B.returns, B.notSynchronized, rfl, rfl, rfl⟩ s.heap [] ls ?_ hP hD va_S.rf
  rw [hml]
  exact hl
theorem zV_of {σ0 : List SC} {y : MethodName} {cy : ByteArray} {mL : Nat} {d : Nat} {args : List AV} {h : HS} {h' : HS} (hy : plainName y.cls = true) (hlen : (args.map avc).sum ≤ mL) (K : ∀ z : Zt, zO z cy y.cls d σ0 → zN z mL → zFv z σ0 h' → zA z 0 (lvA 0 args) [] h) : zV σ0 y cy mL d args h h' := by
  intro lc σ ad D cA A hσ
  refine Met.ofW (cc := cy) (maxL := mL) (ret := none) hy rfl ?_
  intro p e s m args' below meth c s₁ B hml hv
  obtain ⟨rfl, hP, hK, hD, hX⟩ := hv
  have hts := atoms_spec (ws := Cond.code y cy mL none :: Tg) B.pre
  have hown : s.vm.findClass y.cls = some m.cls := findClass_of_methodNamed B.named
  have hl := lv_entry (args.map (cv ad)) (n := mL) (by rw [lvA_len]; exact hlen)
  rw [lg_entry_eq]
  generalize (lg_sl (args.map (cv ad)) ++ List.replicate (mL - (lg_sl (args.map (cv ad))).length) Slot.unset).toArray = ls at hl ⊢
  rw [lvA_map] at hl
  refine K (p, lc, e, _, s, m, _, below, meth, c, 0, 0, _, σ, ad, D, cA, A) ⟨B.exec, B.bytes, hown, fun w hw => hts w (List.mem_cons_of_mem _ hw), hK, hσ, hX, Nat.le_refl _, Nat.le_refl _, Nat.zero_le _, Nat.zero_le _⟩ hml ⟨B.returns, B.notSynchronized, rfl, rfl, rfl⟩ s.heap [] ls ?_ hP hD va_S.rf
  rw [hml]
  exact hl
section ZC
variable {z : Zt} {cc : ByteArray} {own : String} {d : Nat} {σ0 : List SC} {pc : Nat} {l l' : List (Nat × AV)} {st : List AV} {h : HS}
theorem s_ireturn {ty : FieldType} {r : Int} (hz : zO z cc own d σ0) (hf : zFi z σ0 ty r h) (hn : narrow ty (.int (Int32.ofInt r)) = .int (Int32.ofInt r)) (hr : rng r) (hW : WR σ0 h) (hd : decode cc pc = .ok (.ireturn, 1)) : zA z pc l [aI r] h := by
  obtain ⟨p, lc, e, R, s, m, args, below, meth, c, cells, slots, Q, σ, ad, D, cA, A⟩ := z
  obtain ⟨hx, hb, -⟩ := hz
  obtain ⟨hret, hlk, rfl, rfl, rfl⟩ := hf
  intro H locs ls hv hP hD hS
  exact W.zret hx hb hret hn (fun t ht _ => ⟨⟨_, (), rfl, ⟨rfl, hr, hW⟩, by show va_P D vwCl (conc σ ad cA h) t.heap; rw [ht]; exact hP⟩, hS.F ht⟩) hS.2.2 hd hlk
theorem s_return (hz : zO z cc own d σ0) (hf : zFv z σ0 h) (hW : WR σ0 h) (hd : decode cc pc = .ok (.return_, 1)) : zA z pc l [] h := by
  obtain ⟨p, lc, e, R, s, m, args, below, meth, c, cells, slots, Q, σ, ad, D, cA, A⟩ := z
  obtain ⟨hx, hb, -⟩ := hz
  obtain ⟨hret, hlk, rfl, rfl, rfl⟩ := hf
  intro H locs ls hv hP hD hS
  exact W.vret hx hb hret (fun t ht _ => ⟨⟨(), rfl, hW, by show va_P D vwCl (conc σ ad cA h) t.heap; rw [ht]; exact hP⟩, hS.F ht⟩) hS.2.2 hd hlk
/-- what the tables say of a call -/
def zM (own : String) (index : Nat) (y : MethodName) (cy : ByteArray) (mL : Nat) (rt : Option FieldType) (n : Nat) : Prop := (Cond.methodLink own index y ∈ Tg ∨ ∃ host : String, Cond.methodLinkNest own index y host ∈ Tn) ∧ Cond.initialized y.cls ∈ Tg ∧ Cond.code y cy mL rt ∈ Tg ∧ (y.cls ≠ "java/lang/invoke/MethodHandle" ∧ y.cls ≠ "java/lang/invoke/VarHandle" ∧ (parseMethodDescriptor y.desc).map (fun d => d.parameters.length) = some n) ∧ mL ≤ 41
theorem zpre {s : State} {σ : List SC} {ad : Nat → Nat} {D : va_G} {cA : FieldType → ClassId} {A : Nat → Prop} {h : HS} {H : Heap} {locs : List Loc} (args : List AV) (hP : va_P D vwCl (conc σ ad cA h) H) (hK : va_K D vwCl (zTy cA) s) (hD : va_D A (conc σ ad cA h)) (hX : zX ad A s s.heap) (hS : va_S A s.heap H locs) : FrameBlind (zPc σ ad D cA A args h) ∧ ∀ U : State, U.heap = H → s.WarmedH U.vm → zPc σ ad D cA A args h ((args.map (cv ad)).toArray) U := by
  refine ⟨fun a U g mk q => ?_, fun U hU hW => ⟨rfl, by rw [hU]; exact hP, va_K.moved hW.alike hK, hD, hX.kept hS.2.1 hU hW⟩⟩
  obtain ⟨q0, qP, qK, qD, qX⟩ := q
  exact ⟨q0, qP, va_K.moved (u := U) (U := U.calling g mk a) (Vm.Alike.refl U.vm) qK, qD, qX.same rfl rfl⟩
theorem zcat (ad : Nat → Nat) (rest : List AV) : ((rest.map (cv ad)).map fun v => v.category) = rest.map avc := by
  rw [List.map_map]
  exact List.map_congr_left fun v _ => avc_cv ad v
theorem s_callV {y : MethodName} {cy : ByteArray} {mL n d' index b ci : Nat} {ty : FieldType} {fr : List (Option Nat)} {r : Int} {h' : HS} (As rest : List AV) (hz : zO z cc own d σ0) (hm : zM own index y cy mL (some ty) n) (hm2 : Cond.instanceMethod y ∈ Tg ∧ Cond.selects y.cls y y ∈ Tg) (hR : zR σ0 y cy mL ty d' (aR b :: As) h r h') (hdd : d' + 1 ≤ d) (hn : As.length = n) (hc : σ0[b]? = some (.inr (ci, fr))) (hcl : vwCl[ci]?.map (fun q => q.1) = some y.cls) (hst : st = As.reverse ++ aR b :: rest) (hrest : (rest.map avc).sum ≤ 8) (hd : decode cc pc = .ok (.invokevirtual index, 3)) (k : rng r → WR σ0 h' → zA z (pc + 3) l (aI r :: rest) h') : zA z pc l st h := by
  obtain ⟨p, lc, e, R, s, m, args, below, meth, c, cells, slots, Q, σ, ad, D, cA, A⟩ := z
  obtain ⟨hx, hb, hown, hts, hK, hσ, hX, hfr, hlo, hce, hsl⟩ := hz
  obtain ⟨hlk, hini, hcode, hy, hmL⟩ := hm
  subst hst
  intro H locs ls hv hP hD hS
  obtain ⟨q, hq, hq1⟩ : ∃ q : vw_C, vwCl[ci]? = some q ∧ q.1 = y.cls := by
    cases hh : vwCl[ci]? with
    | none => rw [hh] at hcl; cases hcl
    | some q => rw [hh] at hcl; exact ⟨q, rfl, Option.some.inj hcl⟩
  have hpre := zpre (aR b :: As) hP hK hD hX hS
  have hrc := va_recv hK hP hq (conc_at (hσ _ _ hc))
  rw [hq1] at hrc
  have hG : GoodIn Tg (Cond.code y cy mL (some ty) :: Tg) := zGood (fun w hw => by
    rcases List.mem_cons.mp hw with rfl | hw
    · exact hcode
    · exact hw)
  have hroom : (zRm d').frames + 1 ≤ R.frames ∧ 8 + (mL + 11) + (zRm d').locals ≤ R.locals := ⟨Nat.le_trans hdd hfr, by show 8 + (mL + 11) + 60 * d' ≤ _; omega⟩
  have hstk : ((As.reverse ++ aR b :: rest).map (cv ad)) = (As.map (cv ad)).reverse ++ Value.ref (ad b) :: rest.map (cv ad) := by
    rw [List.map_append, List.map_reverse]; rfl
  have hW8 : 2 * (F0 m pc ls ((As.reverse ++ aR b :: rest).map (cv ad))).monitorRoom + ((rest.map (cv ad)).map fun v => v.category).sum ≤ 8 := lv_room (by rw [zcat]; exact hrest)
  have fin : ∀ (r' : Int32) (u : Unit) (t : State) (H1 : Heap) (locs1 : List Loc), t.heap = H1 → s.vm.Alike t.vm → (r' = Int32.ofInt r ∧ rng r ∧ WR σ0 h') → va_P D vwCl (conc σ ad cA h') t.heap → H.size ≤ H1.size → (∀ q : Nat, q < H.size → ¬ A q → H1[q]? = H[q]?) → va_S A s.heap H1 locs1 → W p lc e R s m args below meth c H1 locs1 (cells + 0) (slots + 0) Q (F0 m (pc + 3) ls (.int r' :: rest.map (cv ad))) := by
    intro r' u t H1 locs1 ht hvm hw hB hz1 hk1 hS1
    obtain ⟨rfl, hr, hW'⟩ := hw
    rw [ht] at hB
    exact k hr hW' H1 locs1 ls hv hB (conc_D hD) hS1
  rcases hlk with hlk | ⟨host, hlk⟩
  · exact va_calli (va_runV (As := As.map (cv ad)) (rest := rest.map (cv ad)) (b := ad b) (Ts := Tg) ⟨hx, hb, rfl, hown, hts⟩ (hR lc σ ad D cA A hσ) ⟨callB_of n hts hG rfl rfl rfl (hts _ hini) (hts _ hlk) hy hroom, hts _ hm2.1, hts _ hm2.2⟩ ⟨hpre.1, hrc, hpre.2⟩ rfl (by rw [List.length_map]; exact hn) hv.1 hstk hW8 hd ⟨hce, hsl⟩) hS (fun q _ h => h) (fun q h => h) fin
  · exact va_calli (va_runVN (As := As.map (cv ad)) (rest := rest.map (cv ad)) (b := ad b) (Ts := Tg) ⟨hx, hb, rfl, hown, hts⟩ (hR lc σ ad D cA A hσ) ⟨va_cnB n hts hG rfl rfl rfl (hX.2.2.1 _ hlk) (hts _ hini) hy hroom, hts _ hm2.1, hts _ hm2.2⟩ ⟨hpre.1, hrc, hpre.2⟩ rfl (by rw [List.length_map]; exact hn) hv.1 hstk hW8 hd ⟨hce, hsl⟩) hS (fun q _ h => h) (fun q h => h) fin
theorem s_callVv {y : MethodName} {cy : ByteArray} {mL n d' index b ci : Nat} {fr : List (Option Nat)} {h' : HS} (As rest : List AV) (hz : zO z cc own d σ0) (hm : zM own index y cy mL none n) (hm2 : Cond.instanceMethod y ∈ Tg ∧ Cond.selects y.cls y y ∈ Tg) (hR : zV σ0 y cy mL d' (aR b :: As) h h') (hdd : d' + 1 ≤ d) (hn : As.length = n) (hc : σ0[b]? = some (.inr (ci, fr))) (hcl : vwCl[ci]?.map (fun q => q.1) = some y.cls) (hst : st = As.reverse ++ aR b :: rest) (hrest : (rest.map avc).sum ≤ 8) (hd : decode cc pc = .ok (.invokevirtual index, 3)) (k : WR σ0 h' → zA z (pc + 3) l rest h') : zA z pc l st h := by
  obtain ⟨p, lc, e, R, s, m, args, below, meth, c, cells, slots, Q, σ, ad, D, cA, A⟩ := z
  obtain ⟨hx, hb, hown, hts, hK, hσ, hX, hfr, hlo, hce, hsl⟩ := hz
  obtain ⟨hlk, hini, hcode, hy, hmL⟩ := hm
  subst hst
  intro H locs ls hv hP hD hS
  obtain ⟨q, hq, hq1⟩ : ∃ q : vw_C, vwCl[ci]? = some q ∧ q.1 = y.cls := by
    cases hh : vwCl[ci]? with
    | none => rw [hh] at hcl; cases hcl
    | some q => rw [hh] at hcl; exact ⟨q, rfl, Option.some.inj hcl⟩
  have hpre := zpre (aR b :: As) hP hK hD hX hS
  have hrc := va_recv hK hP hq (conc_at (hσ _ _ hc))
  rw [hq1] at hrc
  have hG : GoodIn Tg (Cond.code y cy mL none :: Tg) := zGood (fun w hw => by
    rcases List.mem_cons.mp hw with rfl | hw
    · exact hcode
    · exact hw)
  have hroom : (zRm d').frames + 1 ≤ R.frames ∧ 8 + (mL + 11) + (zRm d').locals ≤ R.locals := ⟨Nat.le_trans hdd hfr, by show 8 + (mL + 11) + 60 * d' ≤ _; omega⟩
  have hstk : ((As.reverse ++ aR b :: rest).map (cv ad)) = (As.map (cv ad)).reverse ++ Value.ref (ad b) :: rest.map (cv ad) := by
    rw [List.map_append, List.map_reverse]; rfl
  have hW8 : 2 * (F0 m pc ls ((As.reverse ++ aR b :: rest).map (cv ad))).monitorRoom + ((rest.map (cv ad)).map fun v => v.category).sum ≤ 8 := lv_room (by rw [zcat]; exact hrest)
  have fin : ∀ (u : Unit) (t : State) (H1 : Heap) (locs1 : List Loc), t.heap = H1 → s.vm.Alike t.vm → WR σ0 h' → va_P D vwCl (conc σ ad cA h') t.heap → H.size ≤ H1.size → (∀ q : Nat, q < H.size → ¬ A q → H1[q]? = H[q]?) → va_S A s.heap H1 locs1 → W p lc e R s m args below meth c H1 locs1 (cells + 0) (slots + 0) Q (F0 m (pc + 3) ls (rest.map (cv ad))) := by
    intro u t H1 locs1 ht hvm hw hB hz1 hk1 hS1
    rw [ht] at hB
    exact k hw H1 locs1 ls hv hB (conc_D hD) hS1
  rcases hlk with hlk | ⟨host, hlk⟩
  · exact va_callv (va_runV (As := As.map (cv ad)) (rest := rest.map (cv ad)) (b := ad b) (Ts := Tg) ⟨hx, hb, rfl, hown, hts⟩ (hR lc σ ad D cA A hσ) ⟨callB_of n hts hG rfl rfl rfl (hts _ hini) (hts _ hlk) hy hroom, hts _ hm2.1, hts _ hm2.2⟩ ⟨hpre.1, hrc, hpre.2⟩ rfl (by rw [List.length_map]; exact hn) hv.1 hstk hW8 hd ⟨hce, hsl⟩) hS (fun q _ h => h) (fun q h => h) fin
  · exact va_callv (va_runVN (As := As.map (cv ad)) (rest := rest.map (cv ad)) (b := ad b) (Ts := Tg) ⟨hx, hb, rfl, hown, hts⟩ (hR lc σ ad D cA A hσ) ⟨va_cnB n hts hG rfl rfl rfl (hX.2.2.1 _ hlk) (hts _ hini) hy hroom, hts _ hm2.1, hts _ hm2.2⟩ ⟨hpre.1, hrc, hpre.2⟩ rfl (by rw [List.length_map]; exact hn) hv.1 hstk hW8 hd ⟨hce, hsl⟩) hS (fun q _ h => h) (fun q h => h) fin
theorem s_callS {y : MethodName} {cy : ByteArray} {mL n d' index : Nat} {ty : FieldType} {r : Int} {h' : HS} (As rest : List AV) (hz : zO z cc own d σ0) (hm : zM own index y cy mL (some ty) n) (hm2 : Cond.static y ∈ Tg) (hR : zR σ0 y cy mL ty d' As h r h') (hdd : d' + 1 ≤ d) (hn : As.length = n) (hst : st = As.reverse ++ rest) (hrest : (rest.map avc).sum ≤ 8) (hd : decode cc pc = .ok (.invokestatic index, 3)) (k : rng r → WR σ0 h' → zA z (pc + 3) l (aI r :: rest) h') : zA z pc l st h := by
  obtain ⟨p, lc, e, R, s, m, args, below, meth, c, cells, slots, Q, σ, ad, D, cA, A⟩ := z
  obtain ⟨hx, hb, hown, hts, hK, hσ, hX, hfr, hlo, hce, hsl⟩ := hz
  obtain ⟨hlk, hini, hcode, hy, hmL⟩ := hm
  subst hst
  intro H locs ls hv hP hD hS
  have hpre := zpre As hP hK hD hX hS
  have hG : GoodIn Tg (Cond.code y cy mL (some ty) :: Tg) := zGood (fun w hw => by
    rcases List.mem_cons.mp hw with rfl | hw
    · exact hcode
    · exact hw)
  have hroom : (zRm d').frames + 1 ≤ R.frames ∧ 8 + (mL + 11) + (zRm d').locals ≤ R.locals := ⟨Nat.le_trans hdd hfr, by show 8 + (mL + 11) + 60 * d' ≤ _; omega⟩
  have hstk : ((As.reverse ++ rest).map (cv ad)) = (As.map (cv ad)).reverse ++ rest.map (cv ad) := by
    rw [List.map_append, List.map_reverse]
  have hW8 : 2 * (F0 m pc ls ((As.reverse ++ rest).map (cv ad))).monitorRoom + ((rest.map (cv ad)).map fun v => v.category).sum ≤ 8 := lv_room (by rw [zcat]; exact hrest)
  have fin : ∀ (r' : Int32) (u : Unit) (t : State) (H1 : Heap) (locs1 : List Loc), t.heap = H1 → s.vm.Alike t.vm → (r' = Int32.ofInt r ∧ rng r ∧ WR σ0 h') → va_P D vwCl (conc σ ad cA h') t.heap → H.size ≤ H1.size → (∀ q : Nat, q < H.size → ¬ A q → H1[q]? = H[q]?) → va_S A s.heap H1 locs1 → W p lc e R s m args below meth c H1 locs1 (cells + 0) (slots + 0) Q (F0 m (pc + 3) ls (.int r' :: rest.map (cv ad))) := by
    intro r' u t H1 locs1 ht hvm hw hB hz1 hk1 hS1
    obtain ⟨rfl, hr, hW'⟩ := hw
    rw [ht] at hB
    exact k hr hW' H1 locs1 ls hv hB (conc_D hD) hS1
  rcases hlk with hlk | ⟨host, hlk⟩
  · exact va_calli (va_runS (As := As.map (cv ad)) (rest := rest.map (cv ad)) (Ts := Tg) ⟨hx, hb, rfl, hown, hts⟩ (hR lc σ ad D cA A hσ) ⟨callB_of n hts hG rfl rfl rfl (hts _ hini) (hts _ hlk) hy hroom, hts _ hm2⟩ hpre rfl (by rw [List.length_map]; exact hn) hv.1 hstk hW8 hd ⟨hce, hsl⟩) hS (fun q _ h => h) (fun q h => h) fin
  · exact va_calli (va_runSN (As := As.map (cv ad)) (rest := rest.map (cv ad)) (Ts := Tg) ⟨hx, hb, rfl, hown, hts⟩ (hR lc σ ad D cA A hσ) ⟨va_cnB n hts hG rfl rfl rfl (hX.2.2.1 _ hlk) (hts _ hini) hy hroom, hts _ hm2, trivial⟩ hpre rfl (by rw [List.length_map]; exact hn) hv.1 hstk hW8 hd ⟨hce, hsl⟩) hS (fun q _ h => h) (fun q h => h) fin
theorem s_callSv {y : MethodName} {cy : ByteArray} {mL n d' index : Nat} {h' : HS} (As rest : List AV) (hz : zO z cc own d σ0) (hm : zM own index y cy mL none n) (hm2 : Cond.static y ∈ Tg) (hR : zV σ0 y cy mL d' As h h') (hdd : d' + 1 ≤ d) (hn : As.length = n) (hst : st = As.reverse ++ rest) (hrest : (rest.map avc).sum ≤ 8) (hd : decode cc pc = .ok (.invokestatic index, 3)) (k : WR σ0 h' → zA z (pc + 3) l rest h') : zA z pc l st h := by
  obtain ⟨p, lc, e, R, s, m, args, below, meth, c, cells, slots, Q, σ, ad, D, cA, A⟩ := z
  obtain ⟨hx, hb, hown, hts, hK, hσ, hX, hfr, hlo, hce, hsl⟩ := hz
  obtain ⟨hlk, hini, hcode, hy, hmL⟩ := hm
  subst hst
  intro H locs ls hv hP hD hS
  have hpre := zpre As hP hK hD hX hS
  have hG : GoodIn Tg (Cond.code y cy mL none :: Tg) := zGood (fun w hw => by
    rcases List.mem_cons.mp hw with rfl | hw
    · exact hcode
    · exact hw)
  have hroom : (zRm d').frames + 1 ≤ R.frames ∧ 8 + (mL + 11) + (zRm d').locals ≤ R.locals := ⟨Nat.le_trans hdd hfr, by show 8 + (mL + 11) + 60 * d' ≤ _; omega⟩
  have hstk : ((As.reverse ++ rest).map (cv ad)) = (As.map (cv ad)).reverse ++ rest.map (cv ad) := by
    rw [List.map_append, List.map_reverse]
  have hW8 : 2 * (F0 m pc ls ((As.reverse ++ rest).map (cv ad))).monitorRoom + ((rest.map (cv ad)).map fun v => v.category).sum ≤ 8 := lv_room (by rw [zcat]; exact hrest)
  have fin : ∀ (u : Unit) (t : State) (H1 : Heap) (locs1 : List Loc), t.heap = H1 → s.vm.Alike t.vm → WR σ0 h' → va_P D vwCl (conc σ ad cA h') t.heap → H.size ≤ H1.size → (∀ q : Nat, q < H.size → ¬ A q → H1[q]? = H[q]?) → va_S A s.heap H1 locs1 → W p lc e R s m args below meth c H1 locs1 (cells + 0) (slots + 0) Q (F0 m (pc + 3) ls (rest.map (cv ad))) := by
    intro u t H1 locs1 ht hvm hw hB hz1 hk1 hS1
    rw [ht] at hB
    exact k hw H1 locs1 ls hv hB (conc_D hD) hS1
  rcases hlk with hlk | ⟨host, hlk⟩
  · exact va_callv (va_runS (As := As.map (cv ad)) (rest := rest.map (cv ad)) (Ts := Tg) ⟨hx, hb, rfl, hown, hts⟩ (hR lc σ ad D cA A hσ) ⟨callB_of n hts hG rfl rfl rfl (hts _ hini) (hts _ hlk) hy hroom, hts _ hm2⟩ hpre rfl (by rw [List.length_map]; exact hn) hv.1 hstk hW8 hd ⟨hce, hsl⟩) hS (fun q _ h => h) (fun q h => h) fin
  · exact va_callv (va_runSN (As := As.map (cv ad)) (rest := rest.map (cv ad)) (Ts := Tg) ⟨hx, hb, rfl, hown, hts⟩ (hR lc σ ad D cA A hσ) ⟨va_cnB n hts hG rfl rfl rfl (hX.2.2.1 _ hlk) (hts _ hini) hy hroom, hts _ hm2, trivial⟩ hpre rfl (by rw [List.length_map]; exact hn) hv.1 hstk hW8 hd ⟨hce, hsl⟩) hS (fun q _ h => h) (fun q h => h) fin
/-- the words of Math's methods and of arraycopy -/
def zJ (own : String) (index : Nat) (y : MethodName) : Prop := Cond.methodLink own index y ∈ Tg ∧ Cond.static y ∈ Tg ∧ Cond.initialized y.cls ∈ Tg
theorem s_max {index : Nat} {x y : Int} (hz : zO z cc own d σ0) (hJ : zJ own index Lib.Math.max.name) (hd1 : 1 ≤ d) (rx : rng x) (ry : rng y) (hrest : (st.map avc).sum ≤ 8) (hd : decode cc pc = .ok (.invokestatic index, 3)) (k : zA z (pc + 3) l (aI (max x y) :: st) h) : zA z pc l (aI y :: aI x :: st) h := by
  obtain ⟨p, lc, e, R, s, m, args, below, meth, c, cells, slots, Q, σ, ad, D, cA, A⟩ := z
  obtain ⟨hx, hb, hown, hts, hK, hσ, hX, hfr, hlo, hce, hsl⟩ := hz
  intro H locs ls hv hP hD hS
  refine va_mmax hx hb hv.1.symm hown (hts _ hJ.1) (hts _ hJ.2.1) (hts _ hJ.2.2) (hts _ zmx) (by omega) (by rw [zcat]; omega) hce hsl hd ?_
  have e : (if Int32.ofInt x < Int32.ofInt y then Int32.ofInt y else Int32.ofInt x) = Int32.ofInt (max x y) := by
    rw [Int.max_def]
    by_cases hxy : x < y
    · rw [if_pos ((z_lt rx ry).mpr hxy), if_pos (by omega)]
    · rw [if_neg (fun w => hxy ((z_lt rx ry).mp w))]
      by_cases hxy2 : x ≤ y
      · rw [if_pos hxy2, show x = y by omega]
      · rw [if_neg hxy2]
  have k2 := k H locs ls hv hP hD hS
  rw [e]
  exact k2
theorem s_min {index : Nat} {x y : Int} (hz : zO z cc own d σ0) (hJ : zJ own index Lib.Math.min.name) (hd1 : 1 ≤ d) (rx : rng x) (ry : rng y) (hrest : (st.map avc).sum ≤ 8) (hd : decode cc pc = .ok (.invokestatic index, 3)) (k : zA z (pc + 3) l (aI (min x y) :: st) h) : zA z pc l (aI y :: aI x :: st) h := by
  obtain ⟨p, lc, e, R, s, m, args, below, meth, c, cells, slots, Q, σ, ad, D, cA, A⟩ := z
  obtain ⟨hx, hb, hown, hts, hK, hσ, hX, hfr, hlo, hce, hsl⟩ := hz
  intro H locs ls hv hP hD hS
  refine va_mmin hx hb hv.1.symm hown (hts _ hJ.1) (hts _ hJ.2.1) (hts _ hJ.2.2) (hts _ zmn) (by omega) (by rw [zcat]; omega) hce hsl hd ?_
  have e : (if Int32.ofInt y < Int32.ofInt x then Int32.ofInt y else Int32.ofInt x) = Int32.ofInt (min x y) := by
    rw [Int.min_def]
    by_cases hxy : y < x
    · rw [if_pos ((z_lt ry rx).mpr hxy), if_neg (by omega)]
    · rw [if_neg (fun w => hxy ((z_lt ry rx).mp w)), if_pos (by omega)]
  have k2 := k H locs ls hv hP hD hS
  rw [e]
  exact k2
def zabs (x : Int) : Int := if 0 ≤ x then x else 0 - x
theorem s_abs {index : Nat} {x : Int} (hz : zO z cc own d σ0) (hJ : zJ own index Lib.Math.abs.name) (hd1 : 1 ≤ d) (rx : rng x) (hrest : (st.map avc).sum ≤ 8) (hd : decode cc pc = .ok (.invokestatic index, 3)) (k : zA z (pc + 3) l (aI (zabs x) :: st) h) : zA z pc l (aI x :: st) h := by
  obtain ⟨p, lc, e, R, s, m, args, below, meth, c, cells, slots, Q, σ, ad, D, cA, A⟩ := z
  obtain ⟨hx, hb, hown, hts, hK, hσ, hX, hfr, hlo, hce, hsl⟩ := hz
  intro H locs ls hv hP hD hS
  refine va_mabs hx hb hv.1.symm hown (hts _ hJ.1) (hts _ hJ.2.1) (hts _ hJ.2.2) (hts _ zmb) (by omega) (by rw [zcat]; omega) hce hsl hd ?_
  have e : (if 0 ≤ Int32.ofInt x then Int32.ofInt x else 0 - Int32.ofInt x) = Int32.ofInt (zabs x) := by
    unfold zabs
    rw [z_0]
    by_cases hxy : 0 ≤ x
    · rw [if_pos ((z_le z_rng0 rx).mpr hxy), if_pos hxy]
    · rw [if_neg (fun w => hxy ((z_le z_rng0 rx).mp w)), if_neg hxy, z_sub]
  have k2 := k H locs ls hv hP hD hS
  rw [e]
  exact k2
end ZC
