/-! making cells: a state whose world grows -/
theorem zobj1 : Cond.instanceMethod objectInit ∈ Tg := zTg (i := 143) (by decide +kernel) (by decide +kernel)
theorem zobj2 : Cond.code objectInit ⟨#[0xb1]⟩ 1 none ∈ Tg := zTg (i := 144) (by decide +kernel) (by decide +kernel)
def zU (z : Zt) (σ : List SC) (ad : Nat → Nat) (kc ks : Nat) : Zt := match z with
  | (p, lc, e, R, s, m, args, below, meth, c, _, _, Q, _, _, D, cA, A) => (p, lc, e, R, s, m, args, below, meth, c, kc, ks, Q, σ, ad, D, cA, A)
def zAl (z : Zt) : Prop := match z with
  | (_, _, _, _, s, _, _, _, _, _, _, _, _, _, _, _, _, A) => ∀ q : Nat, s.heap.size ≤ q → A q
def zCe (z : Zt) (a b : Nat) : Prop := match z with
  | (_, _, _, R, _) => a ≤ R.cells ∧ b ≤ R.slots
def zNm (z : Zt) : Prop := match z with
  | (_, _, _, _, _, _, _, _, meth, _) => meth.name = "<init>"
/-- ad' goes on as ad: the cells below n stay where they are, and what is not of the world -/
def zKp (n : Nat) (ad ad' : Nat → Nat) : Prop := ∀ j : Nat, (j < n ∨ 999 ≤ j) → ad' j = ad j
def avLt (n : Nat) (v : AV) : Bool := match v with
  | .inl j => decide (j < n) || decide (999 ≤ j)
  | _ => true
def scLt (n : Nat) (q : SC) : Bool := match q with
  | .inl _ => true
  | .inr o => o.2.all (fun r => match r with | none => true | some j => decide (j < n) || decide (j = 998))
theorem zKp_cv {n : Nat} {ad ad' : Nat → Nat} (h : zKp n ad ad') {v : AV} (hv : avLt n v = true) : cv ad' v = cv ad v := by
  rcases v with j | z | z
  · have hv : (decide (j < n) || decide (999 ≤ j)) = true := hv
    simp only [Bool.or_eq_true, decide_eq_true_eq] at hv
    show Value.ref (ad' j) = Value.ref (ad j)
    rw [h j hv]
  · rfl
  · rfl
theorem zKp_locs {n : Nat} {ad ad' : Nat → Nat} (h : zKp n ad ad') {l : List (Nat × AV)} (hl : l.all (fun q => avLt n q.2) = true) : l.map (fun q => (q.1, cv ad' q.2)) = l.map (fun q => (q.1, cv ad q.2)) := by
  apply List.map_congr_left
  intro q hq
  rw [zKp_cv h (List.all_eq_true.mp hl q hq)]
theorem zKp_st {n : Nat} {ad ad' : Nat → Nat} (h : zKp n ad ad') {l : List AV} (hl : l.all (avLt n) = true) : l.map (cv ad') = l.map (cv ad) := by
  apply List.map_congr_left
  intro q hq
  rw [zKp_cv h (List.all_eq_true.mp hl q hq)]
theorem zKp_cell {n : Nat} {ad ad' : Nat → Nat} (hn : n ≤ 900) (h : zKp n ad ad') {cA : FieldType → ClassId} {hh : HS} {i : Nat} {q : SC} (hq : scLt n q = true) : cellOf ad' cA hh i q = cellOf ad cA hh i q := by
  rcases q with t | o
  · rfl
  · show (Sum.inr (o.1, o.2.mapIdx (zfv ad' hh i)) : va_E) = Sum.inr (o.1, o.2.mapIdx (zfv ad hh i))
    have e : o.2.mapIdx (zfv ad' hh i) = o.2.mapIdx (zfv ad hh i) := ?_
    · rw [e]
    apply List.ext_getElem?
    intro j
    rw [List.getElem?_mapIdx, List.getElem?_mapIdx]
    cases hj : o.2[j]? with
    | none => rfl
    | some r =>
      show some _ = some _
      congr 1
      cases r with
      | none => rfl
      | some k =>
        show zrf ad' k = zrf ad k
        unfold zrf
        by_cases h9 : k = 998
        · rw [if_pos h9, if_pos h9]
        · rw [if_neg h9, if_neg h9]
          have h2 := List.all_eq_true.mp (show o.2.all _ = true from hq) (some k) (List.mem_of_getElem? hj)
          have h2 : (decide (k < n) || decide (k = 998)) = true := h2
          simp only [Bool.or_eq_true, decide_eq_true_eq] at h2
          rw [h k (Or.inl (by omega))]
theorem zKp_conc {ad ad' : Nat → Nat} {cA : FieldType → ClassId} {hh : HS} {σ : List SC} (hn : σ.length ≤ 900) (h : zKp σ.length ad ad') (hq : σ.all (scLt σ.length) = true) : conc σ ad' cA hh = conc σ ad cA hh := by
  apply List.ext_getElem?
  intro i
  cases hi : σ[i]? with
  | none => simp [conc, List.getElem?_mapIdx, hi]
  | some q =>
    rw [conc_at hi, conc_at hi]
    have hl := (List.getElem?_eq_some_iff.mp hi).1
    rw [h i (Or.inl hl), zKp_cell hn h (List.all_eq_true.mp hq q (List.mem_of_getElem? hi))]
theorem conc_push {σ : List SC} {ad : Nat → Nat} {cA : FieldType → ClassId} {h : HS} {q : SC} : conc (σ ++ [q]) ad cA h = conc σ ad cA h ++ [(ad σ.length, cellOf ad cA h σ.length q)] := by
  unfold conc
  rw [List.mapIdx_concat]
theorem zO_U {z : Zt} {σ σ1 σ' σ2 : List SC} {ad ad' : Nat → Nat} {kc ks kc' ks' d n : Nat} {cc : ByteArray} {own : String} (hz : zO (zU z σ ad kc ks) cc own d σ1) (hs : ∀ (k : Nat) (q : SC), σ2[k]? = some q → σ'[k]? = some q) (had : zKp n ad ad') (hC : zCe z kc' ks') : zO (zU z σ' ad' kc' ks') cc own d σ2 := by
  obtain ⟨p, lc, e, R, s, m, args, below, meth, c, cells, slots, Q, σ0, ad0, D, cA, A⟩ := z
  obtain ⟨hx, hb, hown, hts, hK, hσ, hX, hfr, hlo, hce, hsl⟩ := hz
  refine ⟨hx, hb, hown, hts, hK, hs, ?_, hfr, hlo, hC.1, hC.2⟩
  have e1 : (fun i => ad' (1000 + i)) = (fun i => ad (1000 + i)) := funext fun i => had _ (Or.inr (by omega))
  have e2 : (fun i => ad' (1100 + i)) = (fun i => ad (1100 + i)) := funext fun i => had _ (Or.inr (by omega))
  unfold zX at hX ⊢
  rw [e1, e2]
  exact ⟨hX.1, fun i q hq => by rw [had _ (Or.inr (by omega))]; exact hX.2.1 i q hq, hX.2.2⟩
def zBornB (t : FieldType) (o : Option Nat) : Bool := match t, o with
  | .int, none => true
  | .boolean, none => true
  | .object _, some k => k == 998
  | .array _, some k => k == 998
  | _, _ => false
def zBorn (T : u_T) (n : Nat) (fr : List (Option Nat)) : Bool := decide (fr.length = n) && (List.range n).all (fun j => match parseFieldDescriptor (T j).2.2.1, fr[j]? with
  | some t, some o => zBornB t o
  | _, _ => false)
theorem zborn2 {t : FieldType} {k : Nat} (hb : zBornB t (some k) = true) : k = 998 := by
  cases t <;> first | (have hb : false = true := hb; cases hb) | (have hb : (k == 998) = true := hb; exact eq_of_beq hb)
theorem zborn1 {t : FieldType} {o : Option Nat} {ad : Nat → Nat} {h : HS} {c j : Nat} (hb : zBornB t o = true) (h0 : h c (j : Int) = 0) : defaultValue t = zfv ad h c j o := by
  cases o with
  | none => cases t <;> first | (have hb : false = true := hb; cases hb) | (show _ = Value.int (Int32.ofInt (h c (j : Int))); rw [h0]; rfl)
  | some k =>
    have e := zborn2 hb
    subst e
    cases t <;> first | (have hb : false = true := hb; cases hb) | rfl
theorem zBorn_len {T : u_T} {n : Nat} {fr : List (Option Nat)} (h : zBorn T n fr = true) : fr.length = n := by
  unfold zBorn at h
  simp only [Bool.and_eq_true, decide_eq_true_eq] at h
  exact h.1
theorem zBorn_all {T : u_T} {n : Nat} {fr : List (Option Nat)} (h : zBorn T n fr = true) : (List.range n).all (fun j => match parseFieldDescriptor (T j).2.2.1, fr[j]? with
  | some t, some o => zBornB t o
  | _, _ => false) = true := by
  unfold zBorn at h
  rw [Bool.and_eq_true] at h
  exact h.2
section ZNEW
variable {z : Zt} {cc : ByteArray} {own : String} {d : Nat} {σ σ' : List SC} {ad : Nat → Nat} {kc ks pc : Nat} {l l' : List (Nat × AV)} {st : List AV} {h : HS}
theorem s_new {ci n k index : Nat} {C : String} {T : u_T} (fr : List (Option Nat)) (hz : zO (zU z σ ad kc ks) cc own d σ) (hA : zAl z) (hCe : zCe z (kc + 1) (ks + n)) (hcl : vwCl[ci]? = some (C, T, n)) (hw : Cond.classLink own index C ∈ Tg ∧ Cond.instantiable C n ∈ Tg ∧ Cond.initialized C ∈ Tg) (hfr : zBorn T n fr = true) (hk : σ.length = k) (hk9 : k ≤ 900) (h0 : ∀ i : Int, h k i = 0) (hno : σ.all (scLt σ.length) = true) (hln : l.all (fun q => avLt k q.2) = true) (hsn : st.all (avLt k) = true) (hs' : σ ++ [.inr (ci, fr)] = σ') (hd : decode cc pc = .ok (.new index, 3))
    (K : ∀ ad' : Nat → Nat, zKp k ad ad' → zO (zU z σ' ad' (kc + 1) (ks + n)) cc own d σ' → zA (zU z σ' ad' (kc + 1) (ks + n)) (pc + 3) l (aR k :: st) h) : zA (zU z σ ad kc ks) pc l st h := by
  have hz0 := hz
  obtain ⟨p, lc, e, R, s, m, args, below, meth, c, cells, slots, Q, σ0, ad0, D, cA, A⟩ := z
  obtain ⟨hx, hb, hown, hts, hK, hσ, hX, hfr0, hlo, hce, hsl⟩ := hz
  subst hs'
  subst hk
  obtain ⟨hu, ty, hty, -⟩ := zCl _ _ hcl
  intro H locs ls hv hP hD hS
  have hb1 : ∀ j, j < n → defaultValue (ty j) = vp_V (fr.mapIdx (zfv ad h σ.length)) j := by
    intro j hj
    have h1 := List.all_eq_true.mp (zBorn_all hfr) j (List.mem_range.mpr hj)
    rw [hty j hj] at h1
    cases hq : fr[j]? with
    | none => rw [hq] at h1; cases h1
    | some o =>
      rw [hq] at h1
      have h1 : zBornB (ty j) o = true := h1
      have e2 : vp_V (fr.mapIdx (zfv ad h σ.length)) j = zfv ad h σ.length j o := by
        unfold vp_V
        rw [List.getD_eq_getElem?_getD, List.getElem?_mapIdx, hq]
        rfl
      rw [e2]
      exact zborn1 h1 (h0 _)
  refine va_new hx hb hts hu ty hty hown (hts _ hw.1) (hts _ hw.2.1) (hts _ hw.2.2) hK hP hD hS hA hcl hb1 hCe.1 hCe.2 hd (fun q H1 hP hD hS => ?_)
  have hkp : zKp σ.length ad (fun j => if j = σ.length then q else ad j) := fun j hj => if_neg (by omega)
  have hcell : cellOf (fun j => if j = σ.length then q else ad j) cA h σ.length (.inr (ci, fr)) = .inr (ci, fr.mapIdx (zfv ad h σ.length)) := by
    have h9 : scLt σ.length (.inr (ci, fr)) = true := by
      refine List.all_eq_true.mpr fun r hr => ?_
      obtain ⟨j, hj⟩ := List.getElem?_of_mem hr
      cases r with
      | none => rfl
      | some k9 =>
        by_cases hjn : j < n
        · have h1 := List.all_eq_true.mp (zBorn_all hfr) j (List.mem_range.mpr hjn)
          rw [hty j hjn, hj] at h1
          have e9 := zborn2 (show zBornB (ty j) (some k9) = true from h1)
          simp [e9]
        · have h7 : j < fr.length := (List.getElem?_eq_some_iff.mp hj).1
          have h8 := zBorn_len hfr
          omega
    exact zKp_cell hk9 hkp h9
  have e1 : conc σ ad cA h ++ [(q, .inr (ci, fr.mapIdx (zfv ad h σ.length)))] = conc (σ ++ [.inr (ci, fr)]) (fun j => if j = σ.length then q else ad j) cA h := by
    rw [conc_push, hcell, zKp_conc hk9 hkp hno]
    simp
  rw [e1] at hP hD
  have e2 := zKp_locs hkp hln
  have e3 := zKp_st hkp hsn
  have kk := K (fun j => if j = σ.length then q else ad j) hkp (zO_U hz0 (fun _ _ h => h) hkp hCe) H1 locs ls (by rw [e2]; exact hv) hP hD hS
  have e4 : (aR σ.length :: st).map (cv (fun j => if j = σ.length then q else ad j)) = Value.ref q :: st.map (cv ad) := by
    rw [List.map_cons, e3]
    show Value.ref (if σ.length = σ.length then q else ad σ.length) :: _ = _
    rw [if_pos rfl]
  rw [e4] at kk
  exact kk
theorem zty_u {D : va_G} {cl : List vw_C} {cA : FieldType → ClassId} {s : State} {c2 : ClassId} {t : FieldType} (ht : t = .int ∨ t = .long ∨ t = .boolean ∨ t = .char) (hK : va_K D cl (zTy cA ++ [(c2, t)]) s) : c2 = cA t := by
  have h1 := (hK.2 4 (c2, t) rfl).2
  rcases ht with rfl | rfl | rfl | rfl
  · exact Option.some.inj ((show s.vm.findClass _ = some c2 from h1).symm.trans (show s.vm.findClass _ = some (cA .int) from (hK.2 0 _ rfl).2))
  · exact Option.some.inj ((show s.vm.findClass _ = some c2 from h1).symm.trans (show s.vm.findClass _ = some (cA .long) from (hK.2 1 _ rfl).2))
  · exact Option.some.inj ((show s.vm.findClass _ = some c2 from h1).symm.trans (show s.vm.findClass _ = some (cA .boolean) from (hK.2 2 _ rfl).2))
  · exact Option.some.inj ((show s.vm.findClass _ = some c2 from h1).symm.trans (show s.vm.findClass _ = some (cA .char) from (hK.2 3 _ rfl).2))
theorem s_newarr {atype : ArrayType} {n k : Nat} {nz : Int} {t : FieldType} (hz : zO (zU z σ ad kc ks) cc own d σ) (hA : zAl z) (hCe : zCe z (kc + 1) (ks + n)) (hw : Cond.arrayClass (newarray.typeOf atype) ∈ Tg) (hty : newarray.typeOf atype = t) (ht : t = .int ∨ t = .long ∨ t = .boolean ∨ t = .char) (hnz : (n : Int) = nz) (hnb : n ≤ 100000) (hk : σ.length = k) (hk9 : k ≤ 900) (h0 : ∀ i : Int, h k i = 0) (hno : σ.all (scLt σ.length) = true) (hln : l.all (fun q => avLt k q.2) = true) (hsn : st.all (avLt k) = true) (hs' : σ ++ [.inl (t, n)] = σ') (hd : decode cc pc = .ok (.newarray atype, 2))
    (K : ∀ ad' : Nat → Nat, zKp k ad ad' → zO (zU z σ' ad' (kc + 1) (ks + n)) cc own d σ' → zA (zU z σ' ad' (kc + 1) (ks + n)) (pc + 2) l (aR k :: st) h) : zA (zU z σ ad kc ks) pc l (aI nz :: st) h := by
  have hz0 := hz
  obtain ⟨p, lc, e, R, s, m, args, below, meth, c, cells, slots, Q, σ0, ad0, D, cA, A⟩ := z
  obtain ⟨hx, hb, hown, hts, hK, hσ, hX, hfr0, hlo, hce, hsl⟩ := hz
  subst hs'
  subst hk
  subst hnz
  have rn : rng (n : Int) := by unfold rng; omega
  intro H locs ls hv hP hD hS
  have hbytes : n * componentBytes t ≤ 536870912 := by
    rcases ht with rfl | rfl | rfl | rfl
    · show n * 4 ≤ _; omega
    · show n * 8 ≤ _; omega
    · show n * 1 ≤ _; omega
    · show n * 2 ≤ _; omega
  have ha : ∀ c2 : ClassId, vp_cell c2 ((n, (match zLg t with | true => .inr (.inl (fun j : Nat => Int64.ofInt (h σ.length (j : Int)))) | false => .inl (fun j : Nat => Int32.ofInt (h σ.length (j : Int))))) : vp_A) = arrV c2 n (fun _ => defaultValue t) := by
    intro c2
    have e1 : (fun j : Nat => Int32.ofInt (h σ.length (j : Int))) = fun _ => 0 := funext fun j => by rw [h0]; rfl
    have e2 : (fun j : Nat => Int64.ofInt (h σ.length (j : Int))) = fun _ => 0 := funext fun j => by rw [h0]; rfl
    rw [e1, e2]
    rcases ht with rfl | rfl | rfl | rfl <;> rfl
  refine va_newa (N' := n) hx hb (hts _ hw) hty hK hP hD hS hA ha (fun w => by have := (z_lt rn z_rng0).mp w; omega) (by rw [z_cl rn]; omega) hbytes hCe.1 hCe.2 hd (fun q c2 H1 hK2 hP hD hS => ?_)
  have ec := zty_u ht hK2
  subst ec
  have hkp : zKp σ.length ad (fun j => if j = σ.length then q else ad j) := fun j hj => if_neg (by omega)
  have e1 : conc σ ad cA h ++ [(q, .inl (cA t, (n, (match zLg t with | true => .inr (.inl (fun j : Nat => Int64.ofInt (h σ.length (j : Int)))) | false => .inl (fun j : Nat => Int32.ofInt (h σ.length (j : Int)))))))] = conc (σ ++ [.inl (t, n)]) (fun j => if j = σ.length then q else ad j) cA h := by
    rw [conc_push, zKp_conc hk9 hkp hno]
    simp [cellOf]
    rfl
  rw [e1] at hP hD
  have e2 := zKp_locs hkp hln
  have e3 := zKp_st hkp hsn
  have kk := K (fun j => if j = σ.length then q else ad j) hkp (zO_U hz0 (fun _ _ h => h) hkp hCe) H1 locs ls (by rw [e2]; exact hv) hP hD hS
  have e4 : (aR σ.length :: st).map (cv (fun j => if j = σ.length then q else ad j)) = Value.ref q :: st.map (cv ad) := by
    rw [List.map_cons, e3]
    show Value.ref (if σ.length = σ.length then q else ad σ.length) :: _ = _
    rw [if_pos rfl]
  rw [e4] at kk
  exact kk
/-- a final field of a reference -/
def zFf (own : String) (index ci k : Nat) (ty : FieldType) : Prop := ∃ (T : u_T) (N : Nat), vwCl[ci]? = some (own, T, N) ∧ k < N ∧ (T k).1 = own ∧ (T k).2.2.2 = true ∧ parseFieldDescriptor (T k).2.2.1 = some ty ∧ Cond.fieldLink own index own (T k).2.1 (T k).2.2.1 ∈ Tg
theorem zputF {fr : List (Option Nat)} {ad : Nat → Nat} {h : HS} {c k r : Nat} {o : Option Nat} (hf : fr[k]? = some o) (hr : r ≠ 998) : (fr.mapIdx (zfv ad h c)).set k (.ref (ad r)) = (fr.set k (some r)).mapIdx (zfv ad h c) := by
  apply List.ext_getElem?
  intro j
  rw [List.getElem?_set, List.getElem?_mapIdx, List.getElem?_mapIdx, List.getElem?_set]
  have hl := (List.getElem?_eq_some_iff.mp hf).1
  by_cases e : k = j
  · subst e
    rw [if_pos rfl, if_pos rfl, if_pos (by simpa using hl), if_pos hl]
    show some _ = some (zrf ad r)
    unfold zrf
    rw [if_neg hr]
  · rw [if_neg e, if_neg e]
theorem conc_setS {c : Nat} {q : SC} {cA : FieldType → ClassId} (hc : c < σ.length) : (conc σ ad cA h).set c (ad c, cellOf ad cA h c q) = conc (σ.set c q) ad cA h := by
  apply List.ext_getElem?
  intro k
  rw [List.getElem?_set]
  by_cases e : c = k
  · subst e
    have e2 : (σ.set c q)[c]? = some q := by simp [hc]
    rw [conc_at e2, if_pos rfl, if_pos (by simpa [conc] using hc)]
  · rw [if_neg e]
    have e2 : (σ.set c q)[k]? = σ[k]? := by rw [List.getElem?_set, if_neg e]
    cases hk : σ[k]? with
    | none => rw [hk] at e2; simp [conc, List.getElem?_mapIdx, hk, e2]; exact List.getElem?_eq_none_iff.mp hk
    | some r => rw [hk] at e2; rw [conc_at hk, conc_at e2]
theorem s_putF {c ci index r : Nat} {fr : List (Option Nat)} {o : Option Nat} {ty : FieldType} (kf : Nat) (hz : zO (zU z σ ad kc ks) cc own d σ) (hNm : zNm z) (hCe : zCe z kc ks) (hF : zFf own index ci kf ty) (hty : ∀ a : Nat, narrow ty (.ref a) = .ref a ∧ fits ty (.ref a) = true) (hc : σ[c]? = some (.inr (ci, fr))) (hf : fr[kf]? = some o) (hr : r ≠ 998) (hs' : σ.set c (.inr (ci, fr.set kf (some r))) = σ') (hd : decode cc pc = .ok (.putfield index, 3)) (K : zO (zU z σ' ad kc ks) cc own d σ' → zA (zU z σ' ad kc ks) (pc + 3) l st h) : zA (zU z σ ad kc ks) pc l (aR r :: aR c :: st) h := by
  have hz0 := hz
  obtain ⟨p, lc, e, R, s, m, args, below, meth, c0, cells, slots, Q, σ0, ad0, D, cA, A⟩ := z
  obtain ⟨hx, hb, hown, hts, hK, hσ, hX, hfr0, hlo, hce, hsl⟩ := hz
  subst hs'
  obtain ⟨T, N, hcl, hk, hC, hfin, hty2, hl⟩ := hF
  obtain ⟨hu, ty0, hty0, hnm⟩ := zCl _ _ hcl
  intro H locs ls hv hP hD hS
  have hlen : kf < (fr.mapIdx (zfv ad h c)).length := by
    simpa using (List.getElem?_eq_some_iff.mp hf).1
  have hcl2 := (List.getElem?_eq_some_iff.mp hc).1
  refine va_putF hx hb hts hu ty0 hty0 hnm hown hK hP hD hS c (conc_at hc) hcl kf hk (hts _ hl) (fun x hx => by rw [hC] at hx; exact hx) hfin hNm hC hty2 (hty (ad r)).1 (hty (ad r)).2 hlen hd (fun H1 locs1 hP hD hS => ?_)
  have hset := conc_setS (σ := σ) (ad := ad) (h := h) (cA := cA) (q := .inr (ci, fr.set kf (some r))) hcl2
  have hP : va_P D vwCl ((conc σ ad cA h).set c (ad c, .inr (ci, (fr.mapIdx (zfv ad h c)).set kf (.ref (ad r))))) H1 := hP
  have hD : va_D A ((conc σ ad cA h).set c (ad c, .inr (ci, (fr.mapIdx (zfv ad h c)).set kf (.ref (ad r))))) := hD
  rw [zputF hf hr] at hP hD
  have hP : va_P D vwCl ((conc σ ad cA h).set c (ad c, cellOf ad cA h c (.inr (ci, fr.set kf (some r))))) H1 := hP
  have hD : va_D A ((conc σ ad cA h).set c (ad c, cellOf ad cA h c (.inr (ci, fr.set kf (some r))))) := hD
  rw [hset] at hP hD
  exact K (zO_U (n := 0) hz0 (fun _ _ h => h) (fun _ _ => rfl) hCe) H1 locs1 ls hv hP hD hS
def zOi (own : String) (index : Nat) : Prop := Cond.methodLink own index objectInit ∈ Tg
theorem s_obj {b index : Nat} (hz : zO z cc own d σ) (hl : zOi own index) (hd1 : 1 ≤ d) (hrest : (st.map avc).sum ≤ 8) (hd : decode cc pc = .ok (.invokespecial index, 3)) (k : zA z (pc + 3) l st h) : zA z pc l (aR b :: st) h := by
  obtain ⟨p, lc, e, R, s, m, args, below, meth, c, cells, slots, Q, σ0, ad0, D, cA, A⟩ := z
  obtain ⟨hx, hb, hown, hts, hK, hσ, hX, hfr, hlo, hce, hsl⟩ := hz
  intro H locs ls hv hP hD hS
  exact W.objInit hx hb hown (hts _ hl) (hts _ zobj1) (hts _ zobj2) rfl hv.1 (a := ad0 b) (rest := st.map (cv ad0)) rfl hd (by omega) (by rw [zcat]; show 2 * 0 + _ + 12 ≤ _; omega) (k H locs ls hv hP hD hS)
end ZNEW
/-! constructors: the world before, the world behind -/
def zIPc (σ : List SC) (ad : Nat → Nat) (D : va_G) (cA : FieldType → ClassId) (A : Nat → Prop) (args : List AV) (h : HS) : Array Value → State → Prop := va_Pc (args.map (cv ad)) (fun U => va_P D vwCl (conc σ ad cA h) U.heap ∧ va_K D vwCl (zTy cA) U ∧ va_D A (conc σ ad cA h) ∧ zX ad A U U.heap ∧ ∀ q : Nat, U.heap.size ≤ q → A q)
def zIRm (d mc ms : Nat) : Room := { frames := d, cells := mc, slots := ms, locals := 60 * d }
def zI (σ : List SC) (y : MethodName) (cy : ByteArray) (mL d : Nat) (args : List AV) (h : HS) (σ' : List SC) (h' : HS) (mc ms : Nat) : Prop :=
  ∀ (lc : Launch) (ad : Nat → Nat) (D : va_G) (cA : FieldType → ClassId) (A : Nat → Prop), Met lc y (Cond.code y cy mL none :: Tg) (zIRm d mc ms) (zIPc σ ad D cA A args h) (va_Qv (fun ad' : Nat → Nat => zKp σ.length ad ad') (fun ad' t => va_P D vwCl (conc σ' ad' cA h') t.heap ∧ va_D A (conc σ' ad' cA h')) A) mc ms A
def zFI (z : Zt) (n0 : Nat) (ad0 : Nat → Nat) (σ' : List SC) (h' : HS) (mc ms : Nat) : Prop := match z with
  | (_, _, _, _, s, _, args, below, meth, _, _, _, Q, _, _, D, cA, A) => meth.sig.returnType = none ∧ meth.locks = false ∧ Q = MQ below (va_Qv (fun ad' : Nat → Nat => zKp n0 ad0 ad') (fun ad' t => va_P D vwCl (conc σ' ad' cA h') t.heap ∧ va_D A (conc σ' ad' cA h')) A) args s mc ms A
theorem zI_of {σ : List SC} {y : MethodName} {cy : ByteArray} {mL d : Nat} {args : List AV} {h : HS} {σ' : List SC} {h' : HS} {mc ms : Nat} (hy : plainName y.cls = true) (hn : y.name = "<init>") (hlen : (args.map avc).sum ≤ mL) (K : ∀ (z : Zt) (ad : Nat → Nat), zO (zU z σ ad 0 0) cy y.cls d σ → zN z mL → zAl z → zNm z → (∀ a b, a ≤ mc → b ≤ ms → zCe z a b) → zFI z σ.length ad σ' h' mc ms → zA (zU z σ ad 0 0) 0 (lvA 0 args) [] h) : zI σ y cy mL d args h σ' h' mc ms := by
  intro lc ad D cA A
  refine Met.ofW (cc := cy) (maxL := mL) (ret := none) hy rfl ?_
  intro p e s m args' below meth c s₁ B hml hv
  obtain ⟨rfl, hP, hK, hD, hX, hA⟩ := hv
  have hts := atoms_spec (ws := Cond.code y cy mL none :: Tg) B.pre
  have hown : s.vm.findClass y.cls = some m.cls := findClass_of_methodNamed B.named
  have hin : meth.name = "<init>" := (name_of_methodNamed B.named B.method).1.trans hn
  have hl := lv_entry (args.map (cv ad)) (n := mL) (by rw [lvA_len]; exact hlen)
  rw [lg_entry_eq]
  generalize (lg_sl (args.map (cv ad)) ++ List.replicate (mL - (lg_sl (args.map (cv ad))).length) Slot.unset).toArray = ls at hl ⊢
  rw [lvA_map] at hl
  refine K (p, lc, e, _, s, m, _, below, meth, c, 0, 0, _, σ, ad, D, cA, A) ad ⟨B.exec, B.bytes, hown, fun w hw => hts w (List.mem_cons_of_mem _ hw), hK, fun _ _ h => h, hX, Nat.le_refl _, Nat.le_refl _, Nat.zero_le _, Nat.zero_le _⟩ hml hA hin (fun a b ha hb => ⟨ha, hb⟩) ⟨B.returns, B.notSynchronized, rfl⟩ s.heap [] ls ?_ hP hD va_S.rf
  rw [hml]
  exact hl
section ZCT
variable {z : Zt} {cc : ByteArray} {own : String} {d : Nat} {σ σ' : List SC} {ad : Nat → Nat} {kc ks pc : Nat} {l l' : List (Nat × AV)} {st : List AV} {h : HS}
theorem s_retI {n0 mc ms : Nat} {ad0 : Nat → Nat} (hz : zO (zU z σ ad mc ms) cc own d σ) (hf : zFI z n0 ad0 σ h mc ms) (had : zKp n0 ad0 ad) (hd : decode cc pc = .ok (.return_, 1)) : zA (zU z σ ad mc ms) pc l [] h := by
  obtain ⟨p, lc, e, R, s, m, args, below, meth, c, cells, slots, Q, σ0, ad1, D, cA, A⟩ := z
  obtain ⟨hx, hb, -⟩ := hz
  obtain ⟨hret, hlk, rfl⟩ := hf
  intro H locs ls hv hP hD hS
  exact W.vret hx hb hret (fun t ht _ => ⟨⟨ad, rfl, had, by show va_P D vwCl (conc σ ad cA h) t.heap; rw [ht]; exact hP, hD⟩, hS.F ht⟩) hS.2.2 hd hlk
theorem s_callI {y : MethodName} {cy : ByteArray} {mL n d' index b mc ms : Nat} {h' : HS} (As rest : List AV) (hz : zO (zU z σ ad kc ks) cc own d σ) (hA : zAl z) (hCe : zCe z (kc + mc) (ks + ms)) (hm : zM own index y cy mL none n) (hn1 : y.name = "<init>") (hm2 : Cond.instanceMethod y ∈ Tg) (hI : zI σ y cy mL d' (aR b :: As) h σ' h' mc ms) (hdd : d' + 1 ≤ d) (hn : As.length = n) (hln : l.all (fun q => avLt σ.length q.2) = true) (hsn : rest.all (avLt σ.length) = true) (hst : st = As.reverse ++ aR b :: rest) (hrest : (rest.map avc).sum ≤ 8) (hd : decode cc pc = .ok (.invokespecial index, 3))
    (K : ∀ ad' : Nat → Nat, zKp σ.length ad ad' → zO (zU z σ' ad' (kc + mc) (ks + ms)) cc own d σ' → zA (zU z σ' ad' (kc + mc) (ks + ms)) (pc + 3) l rest h') : zA (zU z σ ad kc ks) pc l st h := by
  have hz0 := hz
  obtain ⟨p, lc, e, R, s, m, args, below, meth, c, cells, slots, Q, σ0, ad1, D, cA, A⟩ := z
  obtain ⟨hx, hb, hown, hts, hK, hσ, hX, hfr, hlo, hce, hsl⟩ := hz
  obtain ⟨hlk, hini, hcode, hy, hmL⟩ := hm
  subst hst
  intro H locs ls hv hP hD hS
  have hpre : FrameBlind (zIPc σ ad D cA A (aR b :: As) h) ∧ ∀ U : State, U.heap = H → s.WarmedH U.vm → zIPc σ ad D cA A (aR b :: As) h (((aR b :: As).map (cv ad)).toArray) U := by
    refine ⟨fun a U g mk q => ?_, fun U hU hW => ⟨rfl, by rw [hU]; exact hP, va_K.moved hW.alike hK, hD, hX.kept hS.2.1 hU hW, fun q hq => hA q (Nat.le_trans hS.1 (by rw [← hU]; exact hq))⟩⟩
    obtain ⟨q0, qP, qK, qD, qX, qA⟩ := q
    exact ⟨q0, qP, va_K.moved (u := U) (U := U.calling g mk a) (Vm.Alike.refl U.vm) qK, qD, qX.same rfl rfl, qA⟩
  have hG : GoodIn Tg (Cond.code y cy mL none :: Tg) := zGood (fun w hw => by
    rcases List.mem_cons.mp hw with rfl | hw
    · exact hcode
    · exact hw)
  have hroom : (zIRm d' mc ms).frames + 1 ≤ R.frames ∧ 8 + (mL + 11) + (zIRm d' mc ms).locals ≤ R.locals := ⟨Nat.le_trans hdd hfr, by show 8 + (mL + 11) + 60 * d' ≤ _; omega⟩
  have hstk : ((As.reverse ++ aR b :: rest).map (cv ad)) = (As.map (cv ad)).reverse ++ Value.ref (ad b) :: rest.map (cv ad) := by
    rw [List.map_append, List.map_reverse]; rfl
  have hW8 : 2 * (F0 m pc ls ((As.reverse ++ aR b :: rest).map (cv ad))).monitorRoom + ((rest.map (cv ad)).map fun v => v.category).sum ≤ 8 := lv_room (by rw [zcat]; exact hrest)
  have fin : ∀ (u : Nat → Nat) (t : State) (H1 : Heap) (locs1 : List Loc), t.heap = H1 → s.vm.Alike t.vm → zKp σ.length ad u → (va_P D vwCl (conc σ' u cA h') t.heap ∧ va_D A (conc σ' u cA h')) → H.size ≤ H1.size → (∀ q : Nat, q < H.size → ¬ A q → H1[q]? = H[q]?) → va_S A s.heap H1 locs1 → W p lc e R s m args below meth c H1 locs1 (kc + mc) (ks + ms) Q (F0 m (pc + 3) ls (rest.map (cv ad))) := by
    intro u t H1 locs1 ht hvm hw hB hz1 hk1 hS1
    obtain ⟨hB1, hB2⟩ := hB
    rw [ht] at hB1
    have kk := K u hw (zO_U hz0 (fun _ _ h => h) hw hCe) H1 locs1 ls (by rw [zKp_locs hw hln]; exact hv) hB1 hB2 hS1
    rw [zKp_st hw hsn] at kk
    exact kk
  rcases hlk with hlk | ⟨host, hlk⟩
  · exact va_callv (va_runI (As := As.map (cv ad)) (rest := rest.map (cv ad)) (b := ad b) (Ts := Tg) ⟨hx, hb, rfl, hown, hts⟩ (hI lc ad D cA A) ⟨callB_of n hts hG rfl rfl rfl (hts _ hini) (hts _ hlk) hy hroom, hn1, hts _ hm2⟩ hpre rfl (by rw [List.length_map]; exact hn) hv.1 hstk hW8 hd ⟨hCe.1, hCe.2⟩) hS (fun q _ h => h) (fun q h => h) fin
  · exact va_callv (va_runIN (As := As.map (cv ad)) (rest := rest.map (cv ad)) (b := ad b) (Ts := Tg) ⟨hx, hb, rfl, hown, hts⟩ (hI lc ad D cA A) ⟨va_cnB n hts hG rfl rfl rfl (hX.2.2.1 _ hlk) (hts _ hini) hy hroom, hn1, hts _ hm2⟩ hpre rfl (by rw [List.length_map]; exact hn) hv.1 hstk hW8 hd ⟨hCe.1, hCe.2⟩) hS (fun q _ h => h) (fun q h => h) fin
end ZCT
