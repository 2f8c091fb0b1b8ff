/-! how a method is written as a function: numbers that must stay in range, places that must be there, what is named, calls -/
def zl {α : Type} (v : Int) (f : Int → Option α) : Option α := if -2147483648 ≤ v ∧ v < 2147483648 then f v else none
def zl6 {α : Type} (v : Int) (f : Int → Option α) : Option α := if -9223372036854775808 ≤ v ∧ v < 9223372036854775808 then f v else none
def zg {α : Type} (p : Prop) [Decidable p] (f : Option α) : Option α := if p then f else none
def zs {α : Type} (S : HS) (f : HS → Option α) : Option α := f S
def zb {α : Type} (m : Option (Int × HS)) (f : Int → HS → Option α) : Option α := match m with
  | none => none
  | some q => f q.1 q.2
abbrev zO2 : Type := Option (Int × HS)
theorem zl_of {α : Type} {v : Int} {f : Int → Option α} {x : α} (h : zl v f = some x) : rng v ∧ f v = some x := by
  unfold zl at h
  split at h
  · rename_i c
    exact ⟨c, h⟩
  · cases h
theorem zl6_of {α : Type} {v : Int} {f : Int → Option α} {x : α} (h : zl6 v f = some x) : rng6 v ∧ f v = some x := by
  unfold zl6 at h
  split at h
  · rename_i c
    exact ⟨c, h⟩
  · cases h
theorem zg_of {α : Type} {p : Prop} [Decidable p] {f : Option α} {x : α} (h : zg p f = some x) : p ∧ f = some x := by
  unfold zg at h
  split at h
  · rename_i c
    exact ⟨c, h⟩
  · cases h
theorem zs_of {α : Type} {S : HS} {f : HS → Option α} {x : α} (h : zs S f = some x) : f S = some x := h
theorem zb_of {α : Type} {m : Option (Int × HS)} {f : Int → HS → Option α} {x : α} (h : zb m f = some x) : ∃ (r : Int) (S : HS), m = some (r, S) ∧ f r S = some x := by
  cases m with
  | none => cases h
  | some q => exact ⟨q.1, q.2, rfl, h⟩
theorem zl_ex {α : Type} {v : Int} {f : Int → Option α} {x : α} (h : zl v f = some x) : ∃ y : Int, y = v ∧ rng y ∧ f y = some x := ⟨v, rfl, zl_of h⟩
theorem zl6_ex {α : Type} {v : Int} {f : Int → Option α} {x : α} (h : zl6 v f = some x) : ∃ y : Int, y = v ∧ rng6 y ∧ f y = some x := ⟨v, rfl, zl6_of h⟩
theorem zs_ex {α : Type} {S : HS} {f : HS → Option α} {x : α} (h : zs S f = some x) : ∃ T : HS, T = S ∧ f T = some x := ⟨S, rfl, h⟩
theorem zif_t {α : Type} {p : Prop} [Decidable p] {a b x : α} (c : p) (h : (if p then a else b) = x) : a = x := (if_pos c).symm.trans h
theorem zif_f {α : Type} {p : Prop} [Decidable p] {a b x : α} (c : ¬ p) (h : (if p then a else b) = x) : b = x := (if_neg c).symm.trans h
theorem zl_in {α : Type} {v : Int} {f : Int → Option α} (h : -2147483648 ≤ v ∧ v < 2147483648) : zl v f = f v := if_pos h
theorem zl6_in {α : Type} {v : Int} {f : Int → Option α} (h : -9223372036854775808 ≤ v ∧ v < 9223372036854775808) : zl6 v f = f v := if_pos h
theorem zg_in {α : Type} {p : Prop} [Decidable p] {f : Option α} (h : p) : zg p f = f := if_pos h
theorem zb_in {α : Type} {m : Option (Int × HS)} {f : Int → HS → Option α} {r : Int} {S : HS} (h : m = some (r, S)) : zb m f = f r S := by rw [h]; rfl
theorem zb_some {α : Type} (r : Int) (S : HS) (f : Int → HS → Option α) : zb (some (r, S)) f = f r S := rfl
def zBig : Nat := 4294967296
theorem zrl {n : Int} (h : decide (-2147483648 ≤ n) && decide (n < 2147483648) = true) : rng n := by
  simp only [Bool.and_eq_true, decide_eq_true_eq] at h
  exact h
theorem zrl6 {n : Int} (h : decide (-9223372036854775808 ≤ n) && decide (n < 9223372036854775808) = true) : rng6 n := by
  simp only [Bool.and_eq_true, decide_eq_true_eq] at h
  exact h
theorem zand_r {x y : Int} : rng (zand x y) := z_rngI _
theorem zi2c_r {x : Int} : rng (zi2c x) := z_rngI _
theorem zl2i_r {x : Int} : rng (zl2i x) := z_rngI _
theorem zland_r {x y : Int} : rng6 (zland x y) := z_rngL _
theorem zlor_r {x y : Int} : rng6 (zlor x y) := z_rngL _
theorem zlshl_r {x y : Int} : rng6 (zlshl x y) := z_rngL _
theorem zlshr_r {x y : Int} : rng6 (zlshr x y) := z_rngL _
theorem zlushr_r {x y : Int} : rng6 (zlushr x y) := z_rngL _
theorem zcmp_r {x y : Int} : rng (zcmp x y) := by
  unfold zcmp rng
  split
  · omega
  · split <;> omega
theorem zmax_r {x y : Int} (hx : rng x) (hy : rng y) : rng (max x y) := by
  unfold rng at *
  omega
theorem zmin_r {x y : Int} (hx : rng x) (hy : rng y) : rng (min x y) := by
  unfold rng at *
  omega
theorem z_ri {x : Int} (h : rng x) : rng6 x := by
  unfold rng at h
  unfold rng6
  omega
section ZQ
variable {z : Zt} {cc : ByteArray} {own : String} {d : Nat} {σ0 : List SC} {pc : Nat} {l l' : List (Nat × AV)} {st : List AV} {h : HS}
theorem s_iret {v r : Int} {S' : HS} (hq : (some (v, h) : zO2) = some (r, S')) (hz : zO z cc own d σ0) (hf : zFi z σ0 .int r S') (hr : rng v) (hW : WR σ0 h) (hd : decode cc pc = .ok (.ireturn, 1)) : zA z pc l [aI v] h := by
  obtain ⟨rfl, rfl⟩ := Prod.mk.inj (Option.some.inj hq)
  exact s_ireturn hz hf rfl hr hW hd
theorem s_zret {v r : Int} {S' : HS} (hq : (some (v, h) : zO2) = some (r, S')) (hz : zO z cc own d σ0) (hf : zFi z σ0 .boolean r S') (h01 : v = 0 ∨ v = 1) (hW : WR σ0 h) (hd : decode cc pc = .ok (.ireturn, 1)) : zA z pc l [aI v] h := by
  obtain ⟨rfl, rfl⟩ := Prod.mk.inj (Option.some.inj hq)
  exact s_ireturn hz hf (z_nZ h01).1 (by unfold rng; omega) hW hd
theorem s_cret {v r : Int} {S' : HS} (hq : (some (v, h) : zO2) = some (r, S')) (hz : zO z cc own d σ0) (hf : zFi z σ0 .char r S') (h01 : 0 ≤ v ∧ v < 65536) (hW : WR σ0 h) (hd : decode cc pc = .ok (.ireturn, 1)) : zA z pc l [aI v] h := by
  obtain ⟨rfl, rfl⟩ := Prod.mk.inj (Option.some.inj hq)
  exact s_ireturn hz hf (z_nC h01.1 h01.2).1 (by unfold rng; omega) hW hd
theorem s_vret {r : Int} {S' : HS} (hq : (some (0, h) : zO2) = some (r, S')) (hz : zO z cc own d σ0) (hf : zFv z σ0 S') (hW : WR σ0 h) (hd : decode cc pc = .ok (.return_, 1)) : zA z pc l [] h := by
  obtain ⟨rfl, rfl⟩ := Prod.mk.inj (Option.some.inj hq)
  exact s_return hz hf hW hd
theorem s_tab {dflt lo hi off : Int} {offs : Array Int} {len tgt : Nat} {x : Int} (n : Int) (hz : zO z cc own d σ0) (hx : x = n) (hn : rng n) (hd : decode cc pc = .ok (.tableswitch dflt lo hi offs, len)) (h1 : lo ≤ n ∧ n ≤ hi) (ho : offs[(n - lo).toNat]? = some off) (ht : (pc : Int) + off = (tgt : Int)) (k : zA z tgt l st h) : zA z pc l (aI x :: st) h := by
  obtain ⟨p, lc, e, R, s, m, args, below, meth, c, cells, slots, Q, σ, ad, D, cA, A⟩ := z
  obtain ⟨hx2, hb, -⟩ := hz
  subst hx
  intro H locs ls hv hP hD hS
  exact lv_tableIn hx2 hb hd (by rw [z_of hn]; omega) (by rw [z_of hn]; omega) (by rw [z_of hn]; exact ho) ht (k H locs ls hv hP hD hS)
theorem s_tabO {dflt lo hi : Int} {offs : Array Int} {len : Nat} {x : Int} (tgt : Nat) (hz : zO z cc own d σ0) (hn : rng x) (hd : decode cc pc = .ok (.tableswitch dflt lo hi offs, len)) (h1 : x < lo ∨ hi < x) (ht : (pc : Int) + dflt = (tgt : Int)) (k : zA z tgt l st h) : zA z pc l (aI x :: st) h := by
  obtain ⟨p, lc, e, R, s, m, args, below, meth, c, cells, slots, Q, σ, ad, D, cA, A⟩ := z
  obtain ⟨hx2, hb, -⟩ := hz
  intro H locs ls hv hP hD hS
  exact lv_tableOut hx2 hb hd (by rw [z_of hn]; exact h1) ht (k H locs ls hv hP hD hS)
end ZQ
