/-! An abstract machine: the cells of the world by number, what changes in them as whole numbers; a state of it stands for every state of the JVM that holds the same. -/
abbrev AV : Type := Nat ⊕ (Int ⊕ Int)
def aR (k : Nat) : AV := Sum.inl k
def aI (z : Int) : AV := Sum.inr (Sum.inl z)
def aL (z : Int) : AV := Sum.inr (Sum.inr z)
def cv (ad : Nat → Nat) (v : AV) : Value := match v with
  | .inl k => .ref (ad k)
  | .inr (.inl z) => .int (Int32.ofInt z)
  | .inr (.inr z) => .long (Int64.ofInt z)
def avc (v : AV) : Nat := match v with
  | .inl _ => 1
  | .inr (.inl _) => 1
  | .inr (.inr _) => 2
theorem avc_cv (ad : Nat → Nat) (v : AV) : (cv ad v).category = avc v := by
  rcases v with k | z | z <;> rfl
abbrev HS : Type := Nat → Int → Int
abbrev SC : Type := (FieldType × Nat) ⊕ (Nat × List (Option Nat))
def zLg (t : FieldType) : Bool := match t with
  | .long => true
  | _ => false
def rng (z : Int) : Prop := -2147483648 ≤ z ∧ z < 2147483648
def rng6 (z : Int) : Prop := -9223372036854775808 ≤ z ∧ z < 9223372036854775808
def zWr (q : SC) (v : Int) : Prop := match q with
  | .inl t => (match zLg t.1 with | true => rng6 v | false => rng v)
  | .inr _ => rng v
def WR (σ0 : List SC) (h : HS) : Prop := ∀ (k : Nat) (q : SC), σ0[k]? = some q → ∀ i : Int, zWr q (h k i)
def up (h : HS) (c : Nat) (i v : Int) : HS := fun c' i' => if c' = c ∧ i' = i then v else h c' i'
theorem up_at (h : HS) (c : Nat) (i v : Int) (c' : Nat) (i' : Int) : up h c i v c' i' = if c' = c ∧ i' = i then v else h c' i' := rfl
theorem up_eq (h : HS) (c : Nat) (i v : Int) : up h c i v c i = v := by simp [up]
theorem up_cell (h : HS) {c c' : Nat} (hc : c' ≠ c) (i v i' : Int) : up h c i v c' i' = h c' i' := by simp [up, hc]
theorem up_same (h : HS) (c : Nat) (i v i' : Int) : up h c i v c i' = if i' = i then v else h c i' := by simp [up]
theorem WR.up {σ0 : List SC} {h : HS} (hW : WR σ0 h) {c : Nat} {q : SC} (hc : σ0[c]? = some q) {i v : Int} (hv : zWr q v) : WR σ0 (up h c i v) := by
  intro k r hk j
  by_cases e : k = c ∧ j = i
  · obtain ⟨rfl, rfl⟩ := e
    rw [hc] at hk
    cases hk
    rw [up_eq]
    exact hv
  · rw [up_at, if_neg e]
    exact hW k r hk j
/-! numbers -/
theorem z_rngI (x : Int32) : rng x.toInt := by
  have h1 := Int32.le_toInt x
  have h2 := Int32.toInt_lt x
  exact ⟨by omega, by omega⟩
theorem z_of {z : Int} (h : rng z) : (Int32.ofInt z).toInt = z := by
  rw [Int32.toInt_ofInt, show Int32.size = 4294967296 from rfl, Int.bmod_eq_of_le (by have := h.1; omega) (by have := h.2; omega)]
theorem z_of6 {z : Int} (h : rng6 z) : (Int64.ofInt z).toInt = z := by
  rw [Int64.toInt_ofInt, show Int64.size = 18446744073709551616 from rfl, Int.bmod_eq_of_le (by have := h.1; omega) (by have := h.2; omega)]
theorem z_rngL (x : Int64) : rng6 x.toInt := by
  have h1 := Int64.le_toInt x
  have h2 := Int64.toInt_lt x
  exact ⟨by omega, by omega⟩
theorem z_as (x : Int32) : Int32.ofInt x.toInt = x := Int32.ofInt_toInt x
theorem z_as6 (x : Int64) : Int64.ofInt x.toInt = x := Int64.ofInt_toInt x
theorem z_add (a b : Int) : Int32.ofInt a + Int32.ofInt b = Int32.ofInt (a + b) := (Int32.ofInt_add a b).symm
theorem z_sub (a b : Int) : Int32.ofInt a - Int32.ofInt b = Int32.ofInt (a - b) := (Int32.ofInt_sub a b).symm
theorem z_mul (a b : Int) : Int32.ofInt a * Int32.ofInt b = Int32.ofInt (a * b) := (Int32.ofInt_mul a b).symm
theorem z_neg (a : Int) : -Int32.ofInt a = Int32.ofInt (-a) := (Int32.ofInt_neg a).symm
theorem z_add6 (a b : Int) : Int64.ofInt a + Int64.ofInt b = Int64.ofInt (a + b) := (Int64.ofInt_add a b).symm
theorem z_sub6 (a b : Int) : Int64.ofInt a - Int64.ofInt b = Int64.ofInt (a - b) := (Int64.ofInt_sub a b).symm
theorem z_mul6 (a b : Int) : Int64.ofInt a * Int64.ofInt b = Int64.ofInt (a * b) := (Int64.ofInt_mul a b).symm
theorem z_le {a b : Int} (ha : rng a) (hb : rng b) : Int32.ofInt a ≤ Int32.ofInt b ↔ a ≤ b := by
  rw [Int32.le_iff_toInt_le, z_of ha, z_of hb]
theorem z_lt {a b : Int} (ha : rng a) (hb : rng b) : Int32.ofInt a < Int32.ofInt b ↔ a < b := by
  rw [Int32.lt_iff_toInt_lt, z_of ha, z_of hb]
theorem z_eq {a b : Int} (ha : rng a) (hb : rng b) : Int32.ofInt a = Int32.ofInt b ↔ a = b := by
  rw [← Int32.toInt_inj, z_of ha, z_of hb]
theorem z_rng0 : rng 0 := by unfold rng; omega
theorem z_0 : (0 : Int32) = Int32.ofInt 0 := rfl
theorem z_lt6 {a b : Int} (ha : rng6 a) (hb : rng6 b) : Int64.ofInt a < Int64.ofInt b ↔ a < b := by
  rw [Int64.lt_iff_toInt_lt, z_of6 ha, z_of6 hb]
theorem z_eq6 {a b : Int} (ha : rng6 a) (hb : rng6 b) : Int64.ofInt a = Int64.ofInt b ↔ a = b := by
  rw [← Int64.toInt_inj, z_of6 ha, z_of6 hb]
theorem z_cl {z : Int} (h : rng z) : (Int32.ofInt z).toNatClampNeg = z.toNat := by
  show (Int32.ofInt z).toInt.toNat = z.toNat
  rw [z_of h]
theorem z_in {z : Int} {n : Nat} (h0 : 0 ≤ z) (hn : z < n) (hb : n < 2147483648) : rng z ∧ vp_in (Int32.ofInt z) n := by
  have hr : rng z := ⟨by omega, by omega⟩
  exact ⟨hr, vp_in_iff.mpr (by rw [z_of hr]; exact ⟨h0, hn⟩)⟩
theorem z_div {a b : Int} (ha : 0 ≤ a) (hb : 0 < b) (ra : rng a) (rb : rng b) : Int32.ofInt a / Int32.ofInt b = Int32.ofInt (a / b) := by
  apply Int32.toInt_inj.mp
  have hd : a / b ≤ a := Int.ediv_le_self b ha
  have h0 : 0 ≤ a / b := Int.ediv_nonneg ha (by omega)
  have ra2 := ra.2
  have hr : rng (a / b) := ⟨by omega, by omega⟩
  rw [lg_idiv_nonneg (by rw [z_of ra]; exact ha) (by rw [z_of rb]; exact hb), z_of ra, z_of rb, z_of hr]
theorem z_rem {a b : Int} (ha : 0 ≤ a) (hb : 0 < b) (ra : rng a) (rb : rng b) : Int32.ofInt a - Int32.ofInt a / Int32.ofInt b * Int32.ofInt b = Int32.ofInt (a % b) := by
  rw [z_div ha hb ra rb, z_mul, z_sub]
  congr 1
  have := Int.mul_ediv_add_emod a b
  rw [Int.mul_comm] at this
  omega
/-! the world of a state -/
/-- 998 stands for null -/
def zrf (ad : Nat → Nat) (k : Nat) : Value := if k = 998 then .null else .ref (ad k)
def zfv (ad : Nat → Nat) (h : HS) (c j : Nat) (o : Option Nat) : Value := match o with
  | some k => zrf ad k
  | none => .int (Int32.ofInt (h c (j : Int)))
def cellOf (ad : Nat → Nat) (cA : FieldType → ClassId) (h : HS) (i : Nat) (q : SC) : va_E := match q with
  | .inl t => .inl (cA t.1, t.2, (match zLg t.1 with | true => .inr (.inl (fun j => Int64.ofInt (h i (j : Int)))) | false => .inl (fun j => Int32.ofInt (h i (j : Int)))))
  | .inr o => .inr (o.1, o.2.mapIdx (zfv ad h i))
def conc (σ : List SC) (ad : Nat → Nat) (cA : FieldType → ClassId) (h : HS) : va_W := σ.mapIdx (fun i q => (ad i, cellOf ad cA h i q))
theorem conc_at {σ : List SC} {ad : Nat → Nat} {cA : FieldType → ClassId} {h : HS} {k : Nat} {q : SC} (hk : σ[k]? = some q) : (conc σ ad cA h)[k]? = some (ad k, cellOf ad cA h k q) := by
  simp [conc, List.getElem?_mapIdx, hk]
theorem conc_set {σ : List SC} {ad : Nat → Nat} {cA : FieldType → ClassId} {h h' : HS} {c : Nat} {q : SC} (hc : σ[c]? = some q) (ho : ∀ k, k ≠ c → h' k = h k) : (conc σ ad cA h).set c (ad c, cellOf ad cA h' c q) = conc σ ad cA h' := by
  apply List.ext_getElem?
  intro k
  rw [List.getElem?_set]
  by_cases e : c = k
  · subst e
    have hl : c < (conc σ ad cA h).length := by
      have := (List.getElem?_eq_some_iff.mp hc).1
      simpa [conc] using this
    simp [hl, conc_at hc]
  · simp only [e, if_false]
    cases hk : σ[k]? with
    | none => simp [conc, List.getElem?_mapIdx, hk]
    | some r =>
      rw [conc_at hk, conc_at hk]
      have e2 : h' k = h k := ho k (fun z => e z.symm)
      have e3 : zfv ad h' k = zfv ad h k := by
        funext j o
        cases o <;> simp [zfv, e2]
      cases r <;> simp [cellOf, e2, e3]
theorem up_fn {h : HS} {c : Nat} {i v : Int} {n : Nat} (h0 : 0 ≤ i) (hn : i < n) : (fun j : Nat => Int32.ofInt (up h c i v c (j : Int))) = upd (fun j : Nat => Int32.ofInt (h c (j : Int))) i.toNat (Int32.ofInt v) := by
  funext j
  unfold upd
  rw [up_same]
  by_cases e : j = i.toNat
  · rw [if_pos e, if_pos (by omega)]
  · rw [if_neg e, if_neg (by omega)]
theorem up_fnL {h : HS} {c : Nat} {i v : Int} {n : Nat} (h0 : 0 ≤ i) (hn : i < n) : (fun j : Nat => Int64.ofInt (up h c i v c (j : Int))) = vp_updL (fun j : Nat => Int64.ofInt (h c (j : Int))) i.toNat (Int64.ofInt v) := by
  funext j
  unfold vp_updL
  rw [up_same]
  by_cases e : j = i.toNat
  · rw [if_pos e, if_pos (by omega)]
  · rw [if_neg e, if_neg (by omega)]
/-! the words of the tables; the texts -/
def Tg : List Cond := lw_tbl.filter goodWord
theorem zGood {L : List Cond} (h : ∀ w ∈ L, w ∈ Tg) : GoodIn Tg L := fun w hw => ⟨h w hw, good_of_word (List.mem_filter.mp (h w hw)).2⟩
theorem zTg {w : Cond} {i : Nat} (h : lw_tbl[i]? = some w) (hg : goodWord w = true) : w ∈ Tg := List.mem_filter.mpr ⟨List.mem_of_getElem? h, hg⟩
/-- links between mates of a nest: they are kept beside the words -/
def zNest (w : Cond) : Bool := match w with
  | .fieldLinkNest _ _ _ _ _ _ => true
  | .methodLinkNest _ _ _ _ => true
  | .castable _ _ => true
  | .declares _ => true
  | _ => false
def Tn : List Cond := lw_tbl.filter zNest
theorem zTn {w : Cond} {i : Nat} (h : lw_tbl[i]? = some w) (hg : zNest w = true) : w ∈ Tn := List.mem_filter.mpr ⟨List.mem_of_getElem? h, hg⟩
theorem zTn_on {w : Cond} (h : w ∈ Tn) : w.onTables = true := by
  have h2 := (List.mem_filter.mp h).2
  cases w <;> first | rfl | (simp [zNest] at h2)
theorem zTn_warm {w : Cond} (h : w ∈ Tn) {s U : State} (hW : s.WarmedH U.vm) (hw : va_Nw w s) : va_Nw w U := by
  have h2 := (List.mem_filter.mp h).2
  cases w <;> first | exact va_Nw.warmF hW hw | exact va_Nw.warmM hW hw | exact va_Nw.warmC hW hw | exact va_Nw.warmD hW hw | (simp [zNest] at h2)
def ztxt : List (Nat × String) := [(54, "up"), (60, "down"), (62, "left"), (64, "right"), (66, "part"), (68, "row"), (70, "again"), (72, "mirror")]
def zbyt : List (List Int32) := [[117, 112], [100, 111, 119, 110], [108, 101, 102, 116], [114, 105, 103, 104, 116], [112, 97, 114, 116], [114, 111, 119], [97, 103, 97, 105, 110], [109, 105, 114, 114, 111, 114]]
def zlen : List Nat := [2, 4, 4, 5, 4, 3, 5, 6]
def zTxO : String := "HeadRows$Tape"
/-- statics of the JDK that are read -/
def zSt (A : Nat → Prop) (U : State) (H : Heap) : Prop := va_Z "java/lang/String" "COMPACT_STRINGS" "Z" (.int 1) A U H ∧ va_Zq "jdk/internal/util/Preconditions" "SIOOBE_FORMATTER" "Ljava/util/function/BiFunction;" A U H ∧ vx_Zq Bundle.tN "UNASSIGNED_STACK" Bundle.steD A U H ∧ vx_Zq Bundle.tN "SUPPRESSED_SENTINEL" Bundle.listD A U H
theorem zSt_to {A : Nat → Prop} {u U : State} {H H1 : Heap} (h : zSt A u H) (hvm : u.vm.Alike U.vm) (hq : ∀ a : Nat, a < H.size → ¬ A a → H1[a]? = H[a]?) : zSt A U H1 := ⟨(h.1.kept hq).moved hvm, (h.2.1.kept hq).moved hvm, (h.2.2.1.kept hq).moved hvm, (h.2.2.2.kept hq).moved hvm⟩
/-- the eight texts: at ad (1000 + i), their bytes at ad (1100 + i) -/
def zX (ad : Nat → Nat) (A : Nat → Prop) (U : State) (H : Heap) : Prop := vk_S 8 zlen zbyt (fun i => ad (1000 + i)) (fun i => ad (1100 + i)) A U H ∧ (∀ (i : Nat) (q : Nat × String), ztxt[i]? = some q → vk_R zTxO q.1 q.2 (ad (1000 + i)) U) ∧ (∀ w ∈ Tn, va_Nw w U) ∧ zSt A U H
def zTy (cA : FieldType → ClassId) : List (ClassId × FieldType) := [(cA .int, .int), (cA .long, .long), (cA .boolean, .boolean), (cA .char, .char)]
abbrev Zt : Type := Program × Launch × Env × Room × State × MethodId × Array Value × List Frame × Method × Code × Nat × Nat × (State → Prop) × List SC × (Nat → Nat) × va_G × (FieldType → ClassId) × (Nat → Prop)
/-- from the state (pc, locals, stack, cells) on, the machine reaches what z wants -/
def zA (z : Zt) (pc : Nat) (l : List (Nat × AV)) (st : List AV) (h : HS) : Prop := match z with
  | (p, lc, e, R, s, m, args, below, meth, c, cells, slots, Q, σ, ad, D, cA, A) =>
    ∀ (H : Heap) (locs : List Loc) (ls : Array Slot), lv_has ls c.maxLocals (l.map (fun q => (q.1, cv ad q.2))) → va_P D vwCl (conc σ ad cA h) H → va_D A (conc σ ad cA h) → va_S A s.heap H locs → W p lc e R s m args below meth c H locs cells slots Q (F0 m pc ls (st.map (cv ad)))
/-- what stands fast while a method runs -/
def zO (z : Zt) (cc : ByteArray) (own : String) (d : Nat) (σ0 : List SC) : Prop := match z with
  | (p, _, _, R, s, m, args, _, _, c, cells, slots, _, σ, ad, D, cA, A) => p.tables.exec = Jvm.exec ∧ c.code = cc ∧ s.vm.findClass own = some m.cls ∧ (∀ w ∈ Tg, w.before args s = true) ∧ va_K D vwCl (zTy cA) s ∧ (∀ (k : Nat) (q : SC), σ0[k]? = some q → σ[k]? = some q) ∧ zX ad A s s.heap ∧ d ≤ R.frames ∧ 60 * d ≤ R.locals ∧ cells ≤ R.cells ∧ slots ≤ R.slots
theorem zlv {l : List (Nat × AV)} {ad : Nat → Nat} {k i : Nat} {v : AV} (h : l[k]? = some (i, v)) : (l.map (fun q => (q.1, cv ad q.2)))[k]? = some (i, cv ad v) := by
  rw [List.getElem?_map, h]
  rfl
def lset (i : Nat) (v : AV) (l : List (Nat × AV)) : List (Nat × AV) := (i, v) :: l.filter (fun q => !(q.1 == i) && !(q.1 + 1 == i && avc q.2 == 2))
def lsetL (i : Nat) (v : AV) (l : List (Nat × AV)) : List (Nat × AV) := (i, v) :: l.filter (fun q => !(q.1 == i) && (!(q.1 == i + 1) && !(q.1 + 1 == i && avc q.2 == 2)))
theorem lset_map (ad : Nat → Nat) (i : Nat) (v : AV) (l : List (Nat × AV)) : (i, cv ad v) :: (l.map (fun q => (q.1, cv ad q.2))).filter (fun q => !(q.1 == i) && !(q.1 + 1 == i && q.2.category == 2)) = (lset i v l).map (fun q => (q.1, cv ad q.2)) := by
  unfold lset
  rw [List.map_cons, List.filter_map]
  congr 2
  apply List.filter_congr
  intro q _
  simp [Function.comp, avc_cv]
theorem lsetL_map (ad : Nat → Nat) (i : Nat) (v : AV) (l : List (Nat × AV)) : (i, cv ad v) :: (l.map (fun q => (q.1, cv ad q.2))).filter (fun q => !(q.1 == i) && (!(q.1 == i + 1) && !(q.1 + 1 == i && q.2.category == 2))) = (lsetL i v l).map (fun q => (q.1, cv ad q.2)) := by
  unfold lsetL
  rw [List.map_cons, List.filter_map]
  congr 2
  apply List.filter_congr
  intro q _
  simp [Function.comp, avc_cv]
section ZI
variable {z : Zt} {cc : ByteArray} {own : String} {d : Nat} {σ0 : List SC} {pc : Nat} {l l' : List (Nat × AV)} {st : List AV} {h : HS}
theorem s_pick (ks : List Nat) (hl : ks.filterMap (fun k => l[k]?) = l') (k : zA z pc l' st h) : zA z pc l st h := by
  obtain ⟨p, lc, e, R, s, m, args, below, meth, c, cells, slots, Q, σ, ad, D, cA, A⟩ := z
  intro H locs ls hv hP hD hS
  refine k H locs ls (lv_sub hv ks ?_) hP hD hS
  subst hl
  unfold lv_pick
  rw [List.map_filterMap]
  congr 1
  funext i
  simp
theorem s_iload_n {f : Fin 4} {x : Int} (k0 : Nat) (hz : zO z cc own d σ0) (hd : decode cc pc = .ok (.iload_n f, 1)) (hl : l[k0]? = some (f.val, aI x)) (k : zA z (pc + 1) l (aI x :: st) h) : zA z pc l st h := by
  obtain ⟨p, lc, e, R, s, m, args, below, meth, c, cells, slots, Q, σ, ad, D, cA, A⟩ := z
  obtain ⟨hx, hb, -⟩ := hz
  intro H locs ls hv hP hD hS
  exact lv_iload_n hx hb hd rfl (lv_at hv k0 (zlv hl)) (k H locs ls hv hP hD hS)
theorem s_iload {i : Nat} {x : Int} (k0 : Nat) (hz : zO z cc own d σ0) (hd : decode cc pc = .ok (.iload i, 2)) (hl : l[k0]? = some (i, aI x)) (k : zA z (pc + 2) l (aI x :: st) h) : zA z pc l st h := by
  obtain ⟨p, lc, e, R, s, m, args, below, meth, c, cells, slots, Q, σ, ad, D, cA, A⟩ := z
  obtain ⟨hx, hb, -⟩ := hz
  intro H locs ls hv hP hD hS
  exact lv_iload hx hb hd (lv_at hv k0 (zlv hl)) (k H locs ls hv hP hD hS)
theorem s_aload_n {f : Fin 4} {x : Nat} (k0 : Nat) (hz : zO z cc own d σ0) (hd : decode cc pc = .ok (.aload_n f, 1)) (hl : l[k0]? = some (f.val, aR x)) (k : zA z (pc + 1) l (aR x :: st) h) : zA z pc l st h := by
  obtain ⟨p, lc, e, R, s, m, args, below, meth, c, cells, slots, Q, σ, ad, D, cA, A⟩ := z
  obtain ⟨hx, hb, -⟩ := hz
  intro H locs ls hv hP hD hS
  exact lv_aload_n hx hb hd rfl (lv_at hv k0 (zlv hl)) (k H locs ls hv hP hD hS)
theorem s_aload {i : Nat} {x : Nat} (k0 : Nat) (hz : zO z cc own d σ0) (hd : decode cc pc = .ok (.aload i, 2)) (hl : l[k0]? = some (i, aR x)) (k : zA z (pc + 2) l (aR x :: st) h) : zA z pc l st h := by
  obtain ⟨p, lc, e, R, s, m, args, below, meth, c, cells, slots, Q, σ, ad, D, cA, A⟩ := z
  obtain ⟨hx, hb, -⟩ := hz
  intro H locs ls hv hP hD hS
  exact lv_aload hx hb hd (lv_at hv k0 (zlv hl)) (k H locs ls hv hP hD hS)
theorem s_lload_n {f : Fin 4} {x : Int} (k0 : Nat) (hz : zO z cc own d σ0) (hd : decode cc pc = .ok (.lload_n f, 1)) (hl : l[k0]? = some (f.val, aL x)) (k : zA z (pc + 1) l (aL x :: st) h) : zA z pc l st h := by
  obtain ⟨p, lc, e, R, s, m, args, below, meth, c, cells, slots, Q, σ, ad, D, cA, A⟩ := z
  obtain ⟨hx, hb, -⟩ := hz
  intro H locs ls hv hP hD hS
  exact lv_lload_n hx hb hd rfl (lv_at hv k0 (zlv hl)) (k H locs ls hv hP hD hS)
theorem s_lload {i : Nat} {x : Int} (k0 : Nat) (hz : zO z cc own d σ0) (hd : decode cc pc = .ok (.lload i, 2)) (hl : l[k0]? = some (i, aL x)) (k : zA z (pc + 2) l (aL x :: st) h) : zA z pc l st h := by
  obtain ⟨p, lc, e, R, s, m, args, below, meth, c, cells, slots, Q, σ, ad, D, cA, A⟩ := z
  obtain ⟨hx, hb, -⟩ := hz
  intro H locs ls hv hP hD hS
  exact lv_lload hx hb hd (lv_at hv k0 (zlv hl)) (k H locs ls hv hP hD hS)
/-- the locals' number -/
def zN (z : Zt) (nL : Nat) : Prop := match z with
  | (_, _, _, _, _, _, _, _, _, c, _) => c.maxLocals = nL
theorem s_istore_n {f : Fin 4} {x : Int} {nL : Nat} (hz : zO z cc own d σ0) (hN : zN z nL) (hd : decode cc pc = .ok (.istore_n f, 1)) (hi : f.val < nL) (hl : lset f.val (aI x) l = l') (k : zA z (pc + 1) l' st h) : zA z pc l (aI x :: st) h := by
  obtain ⟨p, lc, e, R, s, m, args, below, meth, c, cells, slots, Q, σ, ad, D, cA, A⟩ := z
  obtain ⟨hx, hb, -⟩ := hz
  subst hl
  intro H locs ls hv hP hD hS
  exact lv_istore_n hx hb hd rfl hv (by rw [show c.maxLocals = nL from hN]; exact hi) (lset_map ad _ (aI x) l) (fun ls hv => k H locs ls hv hP hD hS)
theorem s_istore {i : Nat} {x : Int} {nL : Nat} (hz : zO z cc own d σ0) (hN : zN z nL) (hd : decode cc pc = .ok (.istore i, 2)) (hi : i < nL) (hl : lset i (aI x) l = l') (k : zA z (pc + 2) l' st h) : zA z pc l (aI x :: st) h := by
  obtain ⟨p, lc, e, R, s, m, args, below, meth, c, cells, slots, Q, σ, ad, D, cA, A⟩ := z
  obtain ⟨hx, hb, -⟩ := hz
  subst hl
  intro H locs ls hv hP hD hS
  exact lv_istore hx hb hd hv (by rw [show c.maxLocals = nL from hN]; exact hi) (lset_map ad _ (aI x) l) (fun ls hv => k H locs ls hv hP hD hS)
theorem s_astore_n {f : Fin 4} {x : Nat} {nL : Nat} (hz : zO z cc own d σ0) (hN : zN z nL) (hd : decode cc pc = .ok (.astore_n f, 1)) (hi : f.val < nL) (hl : lset f.val (aR x) l = l') (k : zA z (pc + 1) l' st h) : zA z pc l (aR x :: st) h := by
  obtain ⟨p, lc, e, R, s, m, args, below, meth, c, cells, slots, Q, σ, ad, D, cA, A⟩ := z
  obtain ⟨hx, hb, -⟩ := hz
  subst hl
  intro H locs ls hv hP hD hS
  exact lv_astore_n hx hb hd rfl hv (by rw [show c.maxLocals = nL from hN]; exact hi) (lset_map ad _ (aR x) l) (fun ls hv => k H locs ls hv hP hD hS)
theorem s_astore {i : Nat} {x : Nat} {nL : Nat} (hz : zO z cc own d σ0) (hN : zN z nL) (hd : decode cc pc = .ok (.astore i, 2)) (hi : i < nL) (hl : lset i (aR x) l = l') (k : zA z (pc + 2) l' st h) : zA z pc l (aR x :: st) h := by
  obtain ⟨p, lc, e, R, s, m, args, below, meth, c, cells, slots, Q, σ, ad, D, cA, A⟩ := z
  obtain ⟨hx, hb, -⟩ := hz
  subst hl
  intro H locs ls hv hP hD hS
  exact lv_astore hx hb hd hv (by rw [show c.maxLocals = nL from hN]; exact hi) (lset_map ad _ (aR x) l) (fun ls hv => k H locs ls hv hP hD hS)
theorem s_lstore {i : Nat} {x : Int} {nL : Nat} (hz : zO z cc own d σ0) (hN : zN z nL) (hd : decode cc pc = .ok (.lstore i, 2)) (hi : i + 1 < nL) (hl : lsetL i (aL x) l = l') (k : zA z (pc + 2) l' st h) : zA z pc l (aL x :: st) h := by
  obtain ⟨p, lc, e, R, s, m, args, below, meth, c, cells, slots, Q, σ, ad, D, cA, A⟩ := z
  obtain ⟨hx, hb, -⟩ := hz
  subst hl
  intro H locs ls hv hP hD hS
  exact lv_lstore hx hb hd hv (by rw [show c.maxLocals = nL from hN]; exact hi) (lsetL_map ad _ (aL x) l) (fun ls hv => k H locs ls hv hP hD hS)
theorem s_iinc {i k0 : Nat} {n : Int} {x y : Int} {nL : Nat} (hz : zO z cc own d σ0) (hN : zN z nL) (hd : decode cc pc = .ok (.iinc i n, 3)) (hk : l[k0]? = some (i, aI x)) (hy : x + n = y) (hi : i < nL) (hl : lset i (aI y) l = l') (k : zA z (pc + 3) l' st h) : zA z pc l st h := by
  obtain ⟨p, lc, e, R, s, m, args, below, meth, c, cells, slots, Q, σ, ad, D, cA, A⟩ := z
  obtain ⟨hx, hb, -⟩ := hz
  subst hl
  subst hy
  intro H locs ls hv hP hD hS
  exact lv_iinc (v := Int32.ofInt (x + n)) hx hb hd hv (k := k0) (zlv hk) (z_add x n) (by rw [show c.maxLocals = nL from hN]; exact hi) (lset_map ad _ (aI (x + n)) l) (fun ls hv => k H locs ls hv hP hD hS)
theorem s_iconst {n : Int} (hz : zO z cc own d σ0) (hd : decode cc pc = .ok (.iconst n, 1)) (k : zA z (pc + 1) l (aI n :: st) h) : zA z pc l st h := by
  obtain ⟨p, lc, e, R, s, m, args, below, meth, c, cells, slots, Q, σ, ad, D, cA, A⟩ := z
  obtain ⟨hx, hb, -⟩ := hz
  intro H locs ls hv hP hD hS
  exact lv_iconst hx hb hd rfl (k H locs ls hv hP hD hS)
theorem s_bipush {n : Int} (hz : zO z cc own d σ0) (hd : decode cc pc = .ok (.bipush n, 2)) (hv0 : (Int8.ofInt n).toInt32 = Int32.ofInt n) (k : zA z (pc + 2) l (aI n :: st) h) : zA z pc l st h := by
  obtain ⟨p, lc, e, R, s, m, args, below, meth, c, cells, slots, Q, σ, ad, D, cA, A⟩ := z
  obtain ⟨hx, hb, -⟩ := hz
  intro H locs ls hv hP hD hS
  exact lv_bipush hx hb hd hv0 (k H locs ls hv hP hD hS)
theorem s_sipush {n : Int} (hz : zO z cc own d σ0) (hd : decode cc pc = .ok (.sipush n, 3)) (hv0 : (Int16.ofInt n).toInt32 = Int32.ofInt n) (k : zA z (pc + 3) l (aI n :: st) h) : zA z pc l st h := by
  obtain ⟨p, lc, e, R, s, m, args, below, meth, c, cells, slots, Q, σ, ad, D, cA, A⟩ := z
  obtain ⟨hx, hb, -⟩ := hz
  intro H locs ls hv hP hD hS
  exact lv_sipush hx hb hd hv0 (k H locs ls hv hP hD hS)
theorem s_ldc {i : Nat} (n : Int) (hz : zO z cc own d σ0) (hc : Cond.constant own i (Int32.ofInt n) ∈ Tg) (hd : decode cc pc = .ok (.ldc i, 2)) (k : zA z (pc + 2) l (aI n :: st) h) : zA z pc l st h := by
  obtain ⟨p, lc, e, R, s, m, args, below, meth, c, cells, slots, Q, σ, ad, D, cA, A⟩ := z
  obtain ⟨hx, hb, hown, hts, -⟩ := hz
  intro H locs ls hv hP hD hS
  exact lv_ldc hx hb hown (hts _ hc) hd (k H locs ls hv hP hD hS)
theorem s_ldc2 {i : Nat} (n : Int) (hz : zO z cc own d σ0) (hc : Cond.constantLong own i (Int64.ofInt n) ∈ Tg) (hd : decode cc pc = .ok (.ldc2_w i, 3)) (k : zA z (pc + 3) l (aL n :: st) h) : zA z pc l st h := by
  obtain ⟨p, lc, e, R, s, m, args, below, meth, c, cells, slots, Q, σ, ad, D, cA, A⟩ := z
  obtain ⟨hx, hb, hown, hts, -⟩ := hz
  intro H locs ls hv hP hD hS
  exact lv_ldc2 hx hb hown (hts _ hc) hd (k H locs ls hv hP hD hS)
theorem s_lconst {n : Fin 2} (hz : zO z cc own d σ0) (hd : decode cc pc = .ok (.lconst n, 1)) (k : zA z (pc + 1) l (aL (n.val : Int) :: st) h) : zA z pc l st h := by
  obtain ⟨p, lc, e, R, s, m, args, below, meth, c, cells, slots, Q, σ, ad, D, cA, A⟩ := z
  obtain ⟨hx, hb, -⟩ := hz
  intro H locs ls hv hP hD hS
  exact lv_lconst hx hb hd (by match n with | ⟨0, _⟩ => rfl | ⟨1, _⟩ => rfl) (k H locs ls hv hP hD hS)
theorem s_iadd {x y : Int} (hz : zO z cc own d σ0) (hd : decode cc pc = .ok (.iadd, 1)) (k : zA z (pc + 1) l (aI (x + y) :: st) h) : zA z pc l (aI y :: aI x :: st) h := by
  obtain ⟨p, lc, e, R, s, m, args, below, meth, c, cells, slots, Q, σ, ad, D, cA, A⟩ := z
  obtain ⟨hx, hb, -⟩ := hz
  intro H locs ls hv hP hD hS
  refine lv_iadd hx hb hd ?_
  rw [z_add]
  exact k H locs ls hv hP hD hS
theorem s_isub {x y : Int} (hz : zO z cc own d σ0) (hd : decode cc pc = .ok (.isub, 1)) (k : zA z (pc + 1) l (aI (x - y) :: st) h) : zA z pc l (aI y :: aI x :: st) h := by
  obtain ⟨p, lc, e, R, s, m, args, below, meth, c, cells, slots, Q, σ, ad, D, cA, A⟩ := z
  obtain ⟨hx, hb, -⟩ := hz
  intro H locs ls hv hP hD hS
  refine lv_isub hx hb hd ?_
  rw [z_sub]
  exact k H locs ls hv hP hD hS
theorem s_imul {x y : Int} (hz : zO z cc own d σ0) (hd : decode cc pc = .ok (.imul, 1)) (k : zA z (pc + 1) l (aI (x * y) :: st) h) : zA z pc l (aI y :: aI x :: st) h := by
  obtain ⟨p, lc, e, R, s, m, args, below, meth, c, cells, slots, Q, σ, ad, D, cA, A⟩ := z
  obtain ⟨hx, hb, -⟩ := hz
  intro H locs ls hv hP hD hS
  refine lv_imul hx hb hd ?_
  rw [z_mul]
  exact k H locs ls hv hP hD hS
theorem s_ineg {x : Int} (hz : zO z cc own d σ0) (hd : decode cc pc = .ok (.ineg, 1)) (k : zA z (pc + 1) l (aI (-x) :: st) h) : zA z pc l (aI x :: st) h := by
  obtain ⟨p, lc, e, R, s, m, args, below, meth, c, cells, slots, Q, σ, ad, D, cA, A⟩ := z
  obtain ⟨hx, hb, -⟩ := hz
  intro H locs ls hv hP hD hS
  refine lv_ineg hx hb hd ?_
  rw [z_neg]
  exact k H locs ls hv hP hD hS
theorem s_idiv {x y : Int} (hz : zO z cc own d σ0) (h0 : 0 ≤ x) (h1 : 0 < y) (rx : rng x) (ry : rng y) (hd : decode cc pc = .ok (.idiv, 1)) (k : zA z (pc + 1) l (aI (x / y) :: st) h) : zA z pc l (aI y :: aI x :: st) h := by
  obtain ⟨p, lc, e, R, s, m, args, below, meth, c, cells, slots, Q, σ, ad, D, cA, A⟩ := z
  obtain ⟨hx, hb, -⟩ := hz
  intro H locs ls hv hP hD hS
  refine lv_idiv hx hb hd (fun e => ?_) ?_
  · have := (z_eq ry z_rng0).mp e
    omega
  · rw [z_div h0 h1 rx ry]
    exact k H locs ls hv hP hD hS
theorem s_irem {x y : Int} (hz : zO z cc own d σ0) (h0 : 0 ≤ x) (h1 : 0 < y) (rx : rng x) (ry : rng y) (hd : decode cc pc = .ok (.irem, 1)) (k : zA z (pc + 1) l (aI (x % y) :: st) h) : zA z pc l (aI y :: aI x :: st) h := by
  obtain ⟨p, lc, e, R, s, m, args, below, meth, c, cells, slots, Q, σ, ad, D, cA, A⟩ := z
  obtain ⟨hx, hb, -⟩ := hz
  intro H locs ls hv hP hD hS
  refine lv_irem hx hb hd (fun e => ?_) ?_
  · have := (z_eq ry z_rng0).mp e
    omega
  · rw [z_rem h0 h1 rx ry]
    exact k H locs ls hv hP hD hS
def zand (x y : Int) : Int := (Int32.ofInt x &&& Int32.ofInt y).toInt
def zi2c (x : Int) : Int := ((Int32.ofInt x).toUInt32 % 65536).toInt32.toInt
def zl2i (x : Int) : Int := (Int64.ofInt x).toInt32.toInt
def zland (x y : Int) : Int := (Int64.ofInt x &&& Int64.ofInt y).toInt
def zlor (x y : Int) : Int := (Int64.ofInt x ||| Int64.ofInt y).toInt
def zlshl (x y : Int) : Int := (Int64.ofInt x <<< ((Int32.ofInt y).toInt64 &&& 63)).toInt
def zlshr (x y : Int) : Int := (Int64.ofInt x >>> ((Int32.ofInt y).toInt64 &&& 63)).toInt
def zlushr (x y : Int) : Int := ((Int64.ofInt x).toUInt64 >>> ((Int32.ofInt y).toInt64.toUInt64 &&& Int64.toUInt64 63)).toInt64.toInt
def zcmp (x y : Int) : Int := if y < x then 1 else if x = y then 0 else -1
theorem s_iand {x y : Int} (hz : zO z cc own d σ0) (hd : decode cc pc = .ok (.iand, 1)) (k : zA z (pc + 1) l (aI (zand x y) :: st) h) : zA z pc l (aI y :: aI x :: st) h := by
  obtain ⟨p, lc, e, R, s, m, args, below, meth, c, cells, slots, Q, σ, ad, D, cA, A⟩ := z
  obtain ⟨hx, hb, -⟩ := hz
  intro H locs ls hv hP hD hS
  refine lv_iand hx hb hd ?_
  rw [← z_as (Int32.ofInt x &&& Int32.ofInt y)]
  exact k H locs ls hv hP hD hS
theorem s_i2c {x : Int} (hz : zO z cc own d σ0) (hd : decode cc pc = .ok (.i2c, 1)) (k : zA z (pc + 1) l (aI (zi2c x) :: st) h) : zA z pc l (aI x :: st) h := by
  obtain ⟨p, lc, e, R, s, m, args, below, meth, c, cells, slots, Q, σ, ad, D, cA, A⟩ := z
  obtain ⟨hx, hb, -⟩ := hz
  intro H locs ls hv hP hD hS
  exact lv_i2c hx hb hd (z_as _).symm (k H locs ls hv hP hD hS)
theorem s_l2i {x : Int} (hz : zO z cc own d σ0) (hd : decode cc pc = .ok (.l2i, 1)) (k : zA z (pc + 1) l (aI (zl2i x) :: st) h) : zA z pc l (aL x :: st) h := by
  obtain ⟨p, lc, e, R, s, m, args, below, meth, c, cells, slots, Q, σ, ad, D, cA, A⟩ := z
  obtain ⟨hx, hb, -⟩ := hz
  intro H locs ls hv hP hD hS
  exact lv_l2i hx hb hd (z_as _).symm (k H locs ls hv hP hD hS)
theorem s_i2l {x : Int} (hz : zO z cc own d σ0) (rx : rng x) (hd : decode cc pc = .ok (.i2l, 1)) (k : zA z (pc + 1) l (aL x :: st) h) : zA z pc l (aI x :: st) h := by
  obtain ⟨p, lc, e, R, s, m, args, below, meth, c, cells, slots, Q, σ, ad, D, cA, A⟩ := z
  obtain ⟨hx, hb, -⟩ := hz
  intro H locs ls hv hP hD hS
  refine lv_i2l (v := Int64.ofInt x) hx hb hd ?_ (k H locs ls hv hP hD hS)
  apply Int64.toInt_inj.mp
  have h1 := rx.1
  have h2 := rx.2
  rw [Int32.toInt_toInt64, z_of rx, z_of6 ⟨by omega, by omega⟩]
theorem s_land {x y : Int} (hz : zO z cc own d σ0) (hd : decode cc pc = .ok (.land, 1)) (k : zA z (pc + 1) l (aL (zland x y) :: st) h) : zA z pc l (aL y :: aL x :: st) h := by
  obtain ⟨p, lc, e, R, s, m, args, below, meth, c, cells, slots, Q, σ, ad, D, cA, A⟩ := z
  obtain ⟨hx, hb, -⟩ := hz
  intro H locs ls hv hP hD hS
  refine lv_land hx hb hd ?_
  rw [← z_as6 (Int64.ofInt x &&& Int64.ofInt y)]
  exact k H locs ls hv hP hD hS
theorem s_lor {x y : Int} (hz : zO z cc own d σ0) (hd : decode cc pc = .ok (.lor, 1)) (k : zA z (pc + 1) l (aL (zlor x y) :: st) h) : zA z pc l (aL y :: aL x :: st) h := by
  obtain ⟨p, lc, e, R, s, m, args, below, meth, c, cells, slots, Q, σ, ad, D, cA, A⟩ := z
  obtain ⟨hx, hb, -⟩ := hz
  intro H locs ls hv hP hD hS
  refine lv_lor hx hb hd ?_
  rw [← z_as6 (Int64.ofInt x ||| Int64.ofInt y)]
  exact k H locs ls hv hP hD hS
theorem s_lshl {x y : Int} (hz : zO z cc own d σ0) (hd : decode cc pc = .ok (.lshl, 1)) (k : zA z (pc + 1) l (aL (zlshl x y) :: st) h) : zA z pc l (aI y :: aL x :: st) h := by
  obtain ⟨p, lc, e, R, s, m, args, below, meth, c, cells, slots, Q, σ, ad, D, cA, A⟩ := z
  obtain ⟨hx, hb, -⟩ := hz
  intro H locs ls hv hP hD hS
  exact lv_lshl hx hb hd (z_as6 _).symm (k H locs ls hv hP hD hS)
theorem s_lshr {x y : Int} (hz : zO z cc own d σ0) (hd : decode cc pc = .ok (.lshr, 1)) (k : zA z (pc + 1) l (aL (zlshr x y) :: st) h) : zA z pc l (aI y :: aL x :: st) h := by
  obtain ⟨p, lc, e, R, s, m, args, below, meth, c, cells, slots, Q, σ, ad, D, cA, A⟩ := z
  obtain ⟨hx, hb, -⟩ := hz
  intro H locs ls hv hP hD hS
  exact lv_lshr hx hb hd (z_as6 _).symm (k H locs ls hv hP hD hS)
theorem s_lushr {x y : Int} (hz : zO z cc own d σ0) (hd : decode cc pc = .ok (.lushr, 1)) (k : zA z (pc + 1) l (aL (zlushr x y) :: st) h) : zA z pc l (aI y :: aL x :: st) h := by
  obtain ⟨p, lc, e, R, s, m, args, below, meth, c, cells, slots, Q, σ, ad, D, cA, A⟩ := z
  obtain ⟨hx, hb, -⟩ := hz
  intro H locs ls hv hP hD hS
  exact lv_lushr hx hb hd (z_as6 _).symm (k H locs ls hv hP hD hS)
theorem s_ladd {x y : Int} (hz : zO z cc own d σ0) (hd : decode cc pc = .ok (.ladd, 1)) (k : zA z (pc + 1) l (aL (x + y) :: st) h) : zA z pc l (aL y :: aL x :: st) h := by
  obtain ⟨p, lc, e, R, s, m, args, below, meth, c, cells, slots, Q, σ, ad, D, cA, A⟩ := z
  obtain ⟨hx, hb, -⟩ := hz
  intro H locs ls hv hP hD hS
  refine lv_ladd hx hb hd ?_
  rw [z_add6]
  exact k H locs ls hv hP hD hS
theorem s_lsub {x y : Int} (hz : zO z cc own d σ0) (hd : decode cc pc = .ok (.lsub, 1)) (k : zA z (pc + 1) l (aL (x - y) :: st) h) : zA z pc l (aL y :: aL x :: st) h := by
  obtain ⟨p, lc, e, R, s, m, args, below, meth, c, cells, slots, Q, σ, ad, D, cA, A⟩ := z
  obtain ⟨hx, hb, -⟩ := hz
  intro H locs ls hv hP hD hS
  refine lv_lsub hx hb hd ?_
  rw [z_sub6]
  exact k H locs ls hv hP hD hS
theorem s_lmul {x y : Int} (hz : zO z cc own d σ0) (hd : decode cc pc = .ok (.lmul, 1)) (k : zA z (pc + 1) l (aL (x * y) :: st) h) : zA z pc l (aL y :: aL x :: st) h := by
  obtain ⟨p, lc, e, R, s, m, args, below, meth, c, cells, slots, Q, σ, ad, D, cA, A⟩ := z
  obtain ⟨hx, hb, -⟩ := hz
  intro H locs ls hv hP hD hS
  refine lv_lmul hx hb hd ?_
  rw [z_mul6]
  exact k H locs ls hv hP hD hS
theorem s_lcmp {x y : Int} (hz : zO z cc own d σ0) (rx : rng6 x) (ry : rng6 y) (hd : decode cc pc = .ok (.lcmp, 1)) (k : zA z (pc + 1) l (aI (zcmp x y) :: st) h) : zA z pc l (aL y :: aL x :: st) h := by
  obtain ⟨p, lc, e, R, s, m, args, below, meth, c, cells, slots, Q, σ, ad, D, cA, A⟩ := z
  obtain ⟨hx, hb, -⟩ := hz
  intro H locs ls hv hP hD hS
  refine W.lcmp hx hb hd ?_
  have e : lg_cmp (Int64.ofInt x) (Int64.ofInt y) = Int32.ofInt (zcmp x y) := by
    unfold lg_cmp zcmp
    simp only [gt_iff_lt, z_lt6 ry rx, z_eq6 rx ry]
    split
    · rfl
    · split <;> rfl
  rw [e]
  exact k H locs ls hv hP hD hS
theorem s_dup {v : AV} (hz : zO z cc own d σ0) (hc : avc v = 1) (hd : decode cc pc = .ok (.dup, 1)) (k : zA z (pc + 1) l (v :: v :: st) h) : zA z pc l (v :: st) h := by
  obtain ⟨p, lc, e, R, s, m, args, below, meth, c, cells, slots, Q, σ, ad, D, cA, A⟩ := z
  obtain ⟨hx, hb, -⟩ := hz
  intro H locs ls hv hP hD hS
  exact lv_dup hx hb hd (by rw [avc_cv]; exact hc) (k H locs ls hv hP hD hS)
theorem s_dup2 {v w : AV} (hz : zO z cc own d σ0) (hc : avc v = 1) (hc2 : avc w = 1) (hd : decode cc pc = .ok (.dup2, 1)) (k : zA z (pc + 1) l (v :: w :: v :: w :: st) h) : zA z pc l (v :: w :: st) h := by
  obtain ⟨p, lc, e, R, s, m, args, below, meth, c, cells, slots, Q, σ, ad, D, cA, A⟩ := z
  obtain ⟨hx, hb, -⟩ := hz
  intro H locs ls hv hP hD hS
  exact lv_dup2_11 hx hb hd (by rw [avc_cv]; exact hc) (by rw [avc_cv]; exact hc2) (k H locs ls hv hP hD hS)
theorem s_pop {v : AV} (hz : zO z cc own d σ0) (hc : avc v = 1) (hd : decode cc pc = .ok (.pop, 1)) (k : zA z (pc + 1) l st h) : zA z pc l (v :: st) h := by
  obtain ⟨p, lc, e, R, s, m, args, below, meth, c, cells, slots, Q, σ, ad, D, cA, A⟩ := z
  obtain ⟨hx, hb, -⟩ := hz
  intro H locs ls hv hP hD hS
  exact lv_pop hx hb hd (by rw [avc_cv]; exact hc) (k H locs ls hv hP hD hS)
theorem s_goto {off : Int} (tgt : Nat) (hz : zO z cc own d σ0) (hd : decode cc pc = .ok (.goto off, 3)) (ht : (pc : Int) + off = (tgt : Int)) (k : zA z tgt l st h) : zA z pc l st h := by
  obtain ⟨p, lc, e, R, s, m, args, below, meth, c, cells, slots, Q, σ, ad, D, cA, A⟩ := z
  obtain ⟨hx, hb, -⟩ := hz
  intro H locs ls hv hP hD hS
  exact lv_goto hx hb hd ht (k H locs ls hv hP hD hS)
end ZI
section ZB
variable {z : Zt} {cc : ByteArray} {own : String} {d : Nat} {σ0 : List SC} {pc : Nat} {l l' : List (Nat × AV)} {st : List AV} {h : HS}
theorem s_if_eq {x off : Int} (tgt : Nat) (hz : zO z cc own d σ0) (rx : rng x) (hd : decode cc pc = .ok (.ifCond .eq off, 3)) (ht : (pc : Int) + off = (tgt : Int)) (kt : x = 0 → zA z tgt l st h) (kf : ¬ x = 0 → zA z (pc + 3) l st h) : zA z pc l (aI x :: st) h := by
  obtain ⟨p, lc, e, R, s, m, args, below, meth, c, cells, slots, Q, σ, ad, D, cA, A⟩ := z
  obtain ⟨hx, hb, -⟩ := hz
  intro H locs ls hv hP hD hS
  exact lv_if_eq hx hb hd ht (fun q => kt ((z_eq rx z_rng0).mp q) H locs ls hv hP hD hS) (fun q => kf (fun w => q ((z_eq rx z_rng0).mpr w)) H locs ls hv hP hD hS)
theorem s_if_ne {x off : Int} (tgt : Nat) (hz : zO z cc own d σ0) (rx : rng x) (hd : decode cc pc = .ok (.ifCond .ne off, 3)) (ht : (pc : Int) + off = (tgt : Int)) (kt : ¬ x = 0 → zA z tgt l st h) (kf : x = 0 → zA z (pc + 3) l st h) : zA z pc l (aI x :: st) h := by
  obtain ⟨p, lc, e, R, s, m, args, below, meth, c, cells, slots, Q, σ, ad, D, cA, A⟩ := z
  obtain ⟨hx, hb, -⟩ := hz
  intro H locs ls hv hP hD hS
  exact lv_if_ne hx hb hd ht (fun q => kt ((not_congr (z_eq rx z_rng0)).mp q) H locs ls hv hP hD hS) (fun q => kf ((z_eq rx z_rng0).mp q) H locs ls hv hP hD hS)
theorem s_if_lt {x off : Int} (tgt : Nat) (hz : zO z cc own d σ0) (rx : rng x) (hd : decode cc pc = .ok (.ifCond .lt off, 3)) (ht : (pc : Int) + off = (tgt : Int)) (kt : x < 0 → zA z tgt l st h) (kf : ¬ x < 0 → zA z (pc + 3) l st h) : zA z pc l (aI x :: st) h := by
  obtain ⟨p, lc, e, R, s, m, args, below, meth, c, cells, slots, Q, σ, ad, D, cA, A⟩ := z
  obtain ⟨hx, hb, -⟩ := hz
  intro H locs ls hv hP hD hS
  exact lv_if_lt hx hb hd ht (fun q => kt ((z_lt rx z_rng0).mp q) H locs ls hv hP hD hS) (fun q => kf (fun w => q ((z_lt rx z_rng0).mpr w)) H locs ls hv hP hD hS)
theorem s_if_ge {x off : Int} (tgt : Nat) (hz : zO z cc own d σ0) (rx : rng x) (hd : decode cc pc = .ok (.ifCond .ge off, 3)) (ht : (pc : Int) + off = (tgt : Int)) (kt : 0 ≤ x → zA z tgt l st h) (kf : ¬ 0 ≤ x → zA z (pc + 3) l st h) : zA z pc l (aI x :: st) h := by
  obtain ⟨p, lc, e, R, s, m, args, below, meth, c, cells, slots, Q, σ, ad, D, cA, A⟩ := z
  obtain ⟨hx, hb, -⟩ := hz
  intro H locs ls hv hP hD hS
  exact lv_if_ge hx hb hd ht (fun q => kt ((z_le z_rng0 rx).mp q) H locs ls hv hP hD hS) (fun q => kf (fun w => q ((z_le z_rng0 rx).mpr w)) H locs ls hv hP hD hS)
theorem s_if_gt {x off : Int} (tgt : Nat) (hz : zO z cc own d σ0) (rx : rng x) (hd : decode cc pc = .ok (.ifCond .gt off, 3)) (ht : (pc : Int) + off = (tgt : Int)) (kt : 0 < x → zA z tgt l st h) (kf : ¬ 0 < x → zA z (pc + 3) l st h) : zA z pc l (aI x :: st) h := by
  obtain ⟨p, lc, e, R, s, m, args, below, meth, c, cells, slots, Q, σ, ad, D, cA, A⟩ := z
  obtain ⟨hx, hb, -⟩ := hz
  intro H locs ls hv hP hD hS
  exact lv_if_gt hx hb hd ht (fun q => kt ((z_lt z_rng0 rx).mp q) H locs ls hv hP hD hS) (fun q => kf (fun w => q ((z_lt z_rng0 rx).mpr w)) H locs ls hv hP hD hS)
theorem s_if_le {x off : Int} (tgt : Nat) (hz : zO z cc own d σ0) (rx : rng x) (hd : decode cc pc = .ok (.ifCond .le off, 3)) (ht : (pc : Int) + off = (tgt : Int)) (kt : x ≤ 0 → zA z tgt l st h) (kf : ¬ x ≤ 0 → zA z (pc + 3) l st h) : zA z pc l (aI x :: st) h := by
  obtain ⟨p, lc, e, R, s, m, args, below, meth, c, cells, slots, Q, σ, ad, D, cA, A⟩ := z
  obtain ⟨hx, hb, -⟩ := hz
  intro H locs ls hv hP hD hS
  exact lv_if_le hx hb hd ht (fun q => kt ((z_le rx z_rng0).mp q) H locs ls hv hP hD hS) (fun q => kf (fun w => q ((z_le rx z_rng0).mpr w)) H locs ls hv hP hD hS)
theorem s_icmp_eq {x y off : Int} (tgt : Nat) (hz : zO z cc own d σ0) (rx : rng x) (ry : rng y) (hd : decode cc pc = .ok (.if_icmp .eq off, 3)) (ht : (pc : Int) + off = (tgt : Int)) (kt : x = y → zA z tgt l st h) (kf : ¬ x = y → zA z (pc + 3) l st h) : zA z pc l (aI y :: aI x :: st) h := by
  obtain ⟨p, lc, e, R, s, m, args, below, meth, c, cells, slots, Q, σ, ad, D, cA, A⟩ := z
  obtain ⟨hx, hb, -⟩ := hz
  intro H locs ls hv hP hD hS
  exact lv_icmp_eq hx hb hd ht (fun q => kt ((z_eq rx ry).mp q) H locs ls hv hP hD hS) (fun q => kf (fun w => q ((z_eq rx ry).mpr w)) H locs ls hv hP hD hS)
theorem s_icmp_ne {x y off : Int} (tgt : Nat) (hz : zO z cc own d σ0) (rx : rng x) (ry : rng y) (hd : decode cc pc = .ok (.if_icmp .ne off, 3)) (ht : (pc : Int) + off = (tgt : Int)) (kt : ¬ x = y → zA z tgt l st h) (kf : x = y → zA z (pc + 3) l st h) : zA z pc l (aI y :: aI x :: st) h := by
  obtain ⟨p, lc, e, R, s, m, args, below, meth, c, cells, slots, Q, σ, ad, D, cA, A⟩ := z
  obtain ⟨hx, hb, -⟩ := hz
  intro H locs ls hv hP hD hS
  exact lv_icmp_ne hx hb hd ht (fun q => kt ((not_congr (z_eq rx ry)).mp q) H locs ls hv hP hD hS) (fun q => kf ((z_eq rx ry).mp q) H locs ls hv hP hD hS)
theorem s_icmp_lt {x y off : Int} (tgt : Nat) (hz : zO z cc own d σ0) (rx : rng x) (ry : rng y) (hd : decode cc pc = .ok (.if_icmp .lt off, 3)) (ht : (pc : Int) + off = (tgt : Int)) (kt : x < y → zA z tgt l st h) (kf : ¬ x < y → zA z (pc + 3) l st h) : zA z pc l (aI y :: aI x :: st) h := by
  obtain ⟨p, lc, e, R, s, m, args, below, meth, c, cells, slots, Q, σ, ad, D, cA, A⟩ := z
  obtain ⟨hx, hb, -⟩ := hz
  intro H locs ls hv hP hD hS
  exact lv_icmp_lt hx hb hd ht (fun q => kt ((z_lt rx ry).mp q) H locs ls hv hP hD hS) (fun q => kf (fun w => q ((z_lt rx ry).mpr w)) H locs ls hv hP hD hS)
theorem s_icmp_ge {x y off : Int} (tgt : Nat) (hz : zO z cc own d σ0) (rx : rng x) (ry : rng y) (hd : decode cc pc = .ok (.if_icmp .ge off, 3)) (ht : (pc : Int) + off = (tgt : Int)) (kt : y ≤ x → zA z tgt l st h) (kf : ¬ y ≤ x → zA z (pc + 3) l st h) : zA z pc l (aI y :: aI x :: st) h := by
  obtain ⟨p, lc, e, R, s, m, args, below, meth, c, cells, slots, Q, σ, ad, D, cA, A⟩ := z
  obtain ⟨hx, hb, -⟩ := hz
  intro H locs ls hv hP hD hS
  exact lv_icmp_ge hx hb hd ht (fun q => kt ((z_le ry rx).mp q) H locs ls hv hP hD hS) (fun q => kf (fun w => q ((z_le ry rx).mpr w)) H locs ls hv hP hD hS)
theorem s_icmp_gt {x y off : Int} (tgt : Nat) (hz : zO z cc own d σ0) (rx : rng x) (ry : rng y) (hd : decode cc pc = .ok (.if_icmp .gt off, 3)) (ht : (pc : Int) + off = (tgt : Int)) (kt : y < x → zA z tgt l st h) (kf : ¬ y < x → zA z (pc + 3) l st h) : zA z pc l (aI y :: aI x :: st) h := by
  obtain ⟨p, lc, e, R, s, m, args, below, meth, c, cells, slots, Q, σ, ad, D, cA, A⟩ := z
  obtain ⟨hx, hb, -⟩ := hz
  intro H locs ls hv hP hD hS
  exact lv_icmp_gt hx hb hd ht (fun q => kt ((z_lt ry rx).mp q) H locs ls hv hP hD hS) (fun q => kf (fun w => q ((z_lt ry rx).mpr w)) H locs ls hv hP hD hS)
theorem s_icmp_le {x y off : Int} (tgt : Nat) (hz : zO z cc own d σ0) (rx : rng x) (ry : rng y) (hd : decode cc pc = .ok (.if_icmp .le off, 3)) (ht : (pc : Int) + off = (tgt : Int)) (kt : x ≤ y → zA z tgt l st h) (kf : ¬ x ≤ y → zA z (pc + 3) l st h) : zA z pc l (aI y :: aI x :: st) h := by
  obtain ⟨p, lc, e, R, s, m, args, below, meth, c, cells, slots, Q, σ, ad, D, cA, A⟩ := z
  obtain ⟨hx, hb, -⟩ := hz
  intro H locs ls hv hP hD hS
  exact lv_icmp_le hx hb hd ht (fun q => kt ((z_le rx ry).mp q) H locs ls hv hP hD hS) (fun q => kf (fun w => q ((z_le rx ry).mpr w)) H locs ls hv hP hD hS)
end ZB
