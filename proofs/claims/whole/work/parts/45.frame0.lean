/-! what a function may change; ranges stay -/
def zFr (A : List Nat) (O : List (Nat × Int)) (S S' : HS) : Prop := ∀ (k : Nat) (i : Int), k ∉ A → (k, i) ∉ O → S' k i = S k i
theorem zFr.rf {A : List Nat} {O : List (Nat × Int)} {S : HS} : zFr A O S S := fun _ _ _ _ => rfl
theorem zFr.trans {A : List Nat} {O : List (Nat × Int)} {S T U : HS} (h1 : zFr A O S T) (h2 : zFr A O T U) : zFr A O S U := fun k i a b => (h2 k i a b).trans (h1 k i a b)
theorem zFr.mono {A A' : List Nat} {O O' : List (Nat × Int)} {S T : HS} (hA : A' ⊆ A) (hO : O' ⊆ O) (h : zFr A' O' S T) : zFr A O S T := fun k i a b => h k i (fun x => a (hA x)) (fun x => b (hO x))
theorem zFr.cell {A : List Nat} {O : List (Nat × Int)} {S T : HS} (h : zFr A O S T) (k : Nat) (hA : k ∉ A) (hO : (O.all fun q => q.1 != k) = true) : T k = S k := by
  funext i
  refine h k i hA (fun hm => ?_)
  have := (List.all_eq_true.mp hO) _ hm
  simp at this
theorem zFr.at {A : List Nat} {O : List (Nat × Int)} {S T : HS} (h : zFr A O S T) (k : Nat) (i : Int) (hA : k ∉ A) (hO : (k, i) ∉ O) : T k i = S k i := h k i hA hO
def zW (A : List Nat) (O : List (Nat × Int)) (B : Int → Prop) (S : HS) (m : zO2) : Prop := ∀ (r : Int) (S' : HS), m = some (r, S') → B r ∧ WR shF S' ∧ zFr A O S S'
section ZF
variable {A A' : List Nat} {O O' : List (Nat × Int)} {B : Int → Prop} {S : HS}
theorem zW_none : zW A O B S none := fun _ _ h => by cases h
theorem zW_ret {v : Int} (hW : WR shF S) (hv : B v) : zW A O B S (some (v, S)) := by
  intro r S' h
  obtain ⟨rfl, rfl⟩ := Prod.mk.inj (Option.some.inj h)
  exact ⟨hv, hW, zFr.rf⟩
theorem zW_zg {p : Prop} [Decidable p] {f : zO2} (h : zW A O B S f) : zW A O B S (zg p f) := fun r S' e => h r S' (zg_of e).2
theorem zW_zl {v : Int} {f : Int → zO2} (h : ∀ x, rng x → zW A O B S (f x)) : zW A O B S (zl v f) := fun r S' e => h v (zl_of e).1 r S' (zl_of e).2
theorem zW_zl6 {v : Int} {f : Int → zO2} (h : ∀ x, rng6 x → zW A O B S (f x)) : zW A O B S (zl6 v f) := fun r S' e => h v (zl6_of e).1 r S' (zl6_of e).2
theorem zW_ite {p : Prop} [Decidable p] {a b : zO2} (h1 : zW A O B S a) (h2 : zW A O B S b) : zW A O B S (if p then a else b) := by
  split
  · exact h1
  · exact h2
theorem zW_st {T : HS} {f : HS → zO2} (hT : WR shF T) (hF : zFr A O S T) (h : ∀ T, WR shF T → zW A O B T (f T)) : zW A O B S (zs T f) := by
  intro r S' e
  obtain ⟨a, b, c⟩ := h T hT r S' e
  exact ⟨a, b, hF.trans c⟩
theorem zW_up {c : Nat} {q : SC} {i v : Int} {f : HS → zO2} (hW : WR shF S) (hc : shF[c]? = some q) (hA : c ∈ A) (hv : zWr q v) (h : ∀ T, WR shF T → zW A O B T (f T)) : zW A O B S (zs (up S c i v) f) := by
  refine zW_st (hW.up hc hv) (fun k j a _ => ?_) h
  rw [up_at, if_neg]
  rintro ⟨rfl, _⟩
  exact a hA
theorem zW_upO {c : Nat} {q : SC} {i v : Int} {f : HS → zO2} (hW : WR shF S) (hc : shF[c]? = some q) (hA : (c, i) ∈ O) (hv : zWr q v) (h : ∀ T, WR shF T → zW A O B T (f T)) : zW A O B S (zs (up S c i v) f) := by
  refine zW_st (hW.up hc hv) (fun k j _ b => ?_) h
  rw [up_at, if_neg]
  rintro ⟨rfl, rfl⟩
  exact b hA
theorem zW_fill {c : Nat} {q : SC} {n v : Int} {f : HS → zO2} (hW : WR shF S) (hc : shF[c]? = some q) (hA : c ∈ A) (hv : zWr q v) (h : ∀ T, WR shF T → zW A O B T (f T)) : zW A O B S (zs (zfill S c n v) f) := by
  refine zW_st (zfill_W hW hc hv) (fun k j a _ => ?_) h
  unfold zfill
  rw [if_neg]
  rintro ⟨rfl, _⟩
  exact a hA
theorem zW_cpy {c0 c1 n0 n1 : Nat} {n : Int} {f : HS → zO2} (hW : WR shF S) (h0 : shF[c0]? = some (.inl (.int, n0))) (h1 : shF[c1]? = some (.inl (.int, n1))) (hA : c1 ∈ A) (h : ∀ T, WR shF T → zW A O B T (f T)) : zW A O B S (zs (zcpy S c0 c1 n) f) := by
  refine zW_st (zcpy_W hW h0 h1) (fun k j a _ => ?_) h
  unfold zcpy
  rw [if_neg]
  rintro ⟨rfl, _⟩
  exact a hA
theorem zW_zb {B' : Int → Prop} {m : zO2} {f : Int → HS → zO2} (hm : zW A' O' B' S m) (hA : A' ⊆ A) (hO : O' ⊆ O) (h : ∀ (x : Int) (T : HS), B' x → WR shF T → zW A O B T (f x T)) : zW A O B S (zb m f) := by
  intro r S' e
  obtain ⟨x, T, e1, e2⟩ := zb_of e
  obtain ⟨b1, w1, f1⟩ := hm x T e1
  obtain ⟨b2, w2, f2⟩ := h x T b1 w1 r S' e2
  exact ⟨b2, w2, (f1.mono hA hO).trans f2⟩
end ZF
theorem sw_0 : shF[0]? = some (.inr (11, [some 1, some 3, some 7, some 17, some 23, some 28, some 33, some 40, some 42, some 45])) := by decide +kernel
theorem sw_1 : shF[1]? = some (.inr (2, [some 2, none, none])) := by decide +kernel
theorem sw_2 : shF[2]? = some (.inl (.int, 192)) := by decide +kernel
theorem sw_3 : shF[3]? = some (.inr (5, [some 4, some 5, some 6, none])) := by decide +kernel
theorem sw_4 : shF[4]? = some (.inl (.int, 412)) := by decide +kernel
theorem sw_5 : shF[5]? = some (.inl (.int, 412)) := by decide +kernel
theorem sw_6 : shF[6]? = some (.inl (.int, 221)) := by decide +kernel
theorem sw_7 : shF[7]? = some (.inr (6, [some 1, some 3, some 8, some 9, some 10, some 11, some 12, some 13, some 14, some 15, some 16, none, none])) := by decide +kernel
theorem sw_8 : shF[8]? = some (.inl (.int, 192)) := by decide +kernel
theorem sw_9 : shF[9]? = some (.inl (.int, 24)) := by decide +kernel
theorem sw_10 : shF[10]? = some (.inl (.int, 24)) := by decide +kernel
theorem sw_11 : shF[11]? = some (.inl (.int, 192)) := by decide +kernel
theorem sw_12 : shF[12]? = some (.inl (.int, 192)) := by decide +kernel
theorem sw_13 : shF[13]? = some (.inl (.int, 24)) := by decide +kernel
theorem sw_14 : shF[14]? = some (.inl (.int, 24)) := by decide +kernel
theorem sw_15 : shF[15]? = some (.inl (.int, 24)) := by decide +kernel
theorem sw_16 : shF[16]? = some (.inl (.int, 192)) := by decide +kernel
theorem sw_17 : shF[17]? = some (.inr (8, [some 1, some 3, some 7, some 18, some 19, some 20, some 21, some 22, none, none, none])) := by decide +kernel
theorem sw_18 : shF[18]? = some (.inl (.int, 192)) := by decide +kernel
theorem sw_19 : shF[19]? = some (.inl (.int, 192)) := by decide +kernel
theorem sw_20 : shF[20]? = some (.inl (.int, 192)) := by decide +kernel
theorem sw_21 : shF[21]? = some (.inl (.int, 192)) := by decide +kernel
theorem sw_22 : shF[22]? = some (.inl (.int, 192)) := by decide +kernel
theorem sw_23 : shF[23]? = some (.inr (3, [some 24, some 25, some 26, some 27, none])) := by decide +kernel
theorem sw_24 : shF[24]? = some (.inl (.int, 60)) := by decide +kernel
theorem sw_25 : shF[25]? = some (.inl (.int, 60)) := by decide +kernel
theorem sw_26 : shF[26]? = some (.inl (.int, 60)) := by decide +kernel
theorem sw_27 : shF[27]? = some (.inl (.int, 60)) := by decide +kernel
theorem sw_28 : shF[28]? = some (.inr (0, [some 1, some 7, some 17, some 23, some 29, some 30, some 31, some 32, none, none])) := by decide +kernel
theorem sw_29 : shF[29]? = some (.inl (.int, 192)) := by decide +kernel
theorem sw_30 : shF[30]? = some (.inl (.int, 192)) := by decide +kernel
theorem sw_31 : shF[31]? = some (.inl (.int, 192)) := by decide +kernel
theorem sw_32 : shF[32]? = some (.inl (.int, 9)) := by decide +kernel
theorem sw_33 : shF[33]? = some (.inr (1, [some 34, some 35, some 36, some 37, some 38, some 39, none, none])) := by decide +kernel
theorem sw_34 : shF[34]? = some (.inl (.int, 3)) := by decide +kernel
theorem sw_35 : shF[35]? = some (.inl (.int, 3)) := by decide +kernel
theorem sw_36 : shF[36]? = some (.inl (.int, 8)) := by decide +kernel
theorem sw_37 : shF[37]? = some (.inl (.int, 8)) := by decide +kernel
theorem sw_38 : shF[38]? = some (.inl (.int, 8)) := by decide +kernel
theorem sw_39 : shF[39]? = some (.inl (.int, 8)) := by decide +kernel
theorem sw_40 : shF[40]? = some (.inr (9, [some 41, none, none, none, none, none])) := by decide +kernel
theorem sw_41 : shF[41]? = some (.inl (.char, 1000)) := by decide +kernel
theorem sw_42 : shF[42]? = some (.inr (7, [some 40, some 43, some 44, none, none, none])) := by decide +kernel
theorem sw_43 : shF[43]? = some (.inl (.int, 1000)) := by decide +kernel
theorem sw_44 : shF[44]? = some (.inl (.int, 4)) := by decide +kernel
theorem sw_45 : shF[45]? = some (.inr (4, [some 42, some 3, some 7, some 46, some 49, some 50, none, none, none])) := by decide +kernel
theorem sw_46 : shF[46]? = some (.inr (10, [some 47, some 48, none, none, none, none, none, none, none])) := by decide +kernel
theorem sw_47 : shF[47]? = some (.inl (.int, 413)) := by decide +kernel
theorem sw_48 : shF[48]? = some (.inl (.int, 413)) := by decide +kernel
theorem sw_49 : shF[49]? = some (.inl (.int, 84)) := by decide +kernel
theorem sw_50 : shF[50]? = some (.inl (.int, 84)) := by decide +kernel
theorem sw_51 : shF[51]? = some (.inr (12, [none, some 52, none, none, some 53, some 54, some 55, none, none, some 56, none, some 57, some 58, some 59, some 60, none, none, none, none, none, some 61, some 62, none, some 63, some 64, some 65, some 66, none, some 67, some 68, some 69, some 70, some 71, some 72, none, some 73, some 74, none, none, some 75, some 76, some 77, some 78, none, some 79, some 80, some 81, some 82, some 83, some 84, some 85, some 86, some 87, some 88, none, some 89, none, some 90, some 91, some 92, none, some 93])) := by decide +kernel
theorem sw_52 : shF[52]? = some (.inl (.int, 1000)) := by decide +kernel
theorem sw_53 : shF[53]? = some (.inl (.int, 1002)) := by decide +kernel
theorem sw_54 : shF[54]? = some (.inl (.int, 1002)) := by decide +kernel
theorem sw_55 : shF[55]? = some (.inl (.long, 1002)) := by decide +kernel
theorem sw_56 : shF[56]? = some (.inl (.long, 8)) := by decide +kernel
theorem sw_57 : shF[57]? = some (.inl (.int, 1100)) := by decide +kernel
theorem sw_58 : shF[58]? = some (.inl (.int, 1100)) := by decide +kernel
theorem sw_59 : shF[59]? = some (.inl (.int, 1100)) := by decide +kernel
theorem sw_60 : shF[60]? = some (.inl (.int, 1100)) := by decide +kernel
theorem sw_61 : shF[61]? = some (.inl (.int, 4100)) := by decide +kernel
theorem sw_62 : shF[62]? = some (.inl (.int, 4100)) := by decide +kernel
theorem sw_63 : shF[63]? = some (.inl (.int, 208)) := by decide +kernel
theorem sw_64 : shF[64]? = some (.inl (.int, 204)) := by decide +kernel
theorem sw_65 : shF[65]? = some (.inl (.int, 221)) := by decide +kernel
theorem sw_66 : shF[66]? = some (.inl (.boolean, 412)) := by decide +kernel
theorem sw_67 : shF[67]? = some (.inl (.int, 192)) := by decide +kernel
theorem sw_68 : shF[68]? = some (.inl (.int, 192)) := by decide +kernel
theorem sw_69 : shF[69]? = some (.inl (.int, 24)) := by decide +kernel
theorem sw_70 : shF[70]? = some (.inl (.int, 4608)) := by decide +kernel
theorem sw_71 : shF[71]? = some (.inl (.int, 24)) := by decide +kernel
theorem sw_72 : shF[72]? = some (.inl (.int, 24)) := by decide +kernel
theorem sw_73 : shF[73]? = some (.inl (.int, 84)) := by decide +kernel
theorem sw_74 : shF[74]? = some (.inl (.int, 84)) := by decide +kernel
theorem sw_75 : shF[75]? = some (.inl (.int, 192)) := by decide +kernel
theorem sw_76 : shF[76]? = some (.inl (.int, 192)) := by decide +kernel
theorem sw_77 : shF[77]? = some (.inl (.int, 192)) := by decide +kernel
theorem sw_78 : shF[78]? = some (.inl (.int, 192)) := by decide +kernel
theorem sw_79 : shF[79]? = some (.inl (.int, 60)) := by decide +kernel
theorem sw_80 : shF[80]? = some (.inl (.int, 60)) := by decide +kernel
theorem sw_81 : shF[81]? = some (.inl (.int, 60)) := by decide +kernel
theorem sw_82 : shF[82]? = some (.inl (.int, 60)) := by decide +kernel
theorem sw_83 : shF[83]? = some (.inl (.int, 192)) := by decide +kernel
theorem sw_84 : shF[84]? = some (.inl (.int, 576)) := by decide +kernel
theorem sw_85 : shF[85]? = some (.inl (.int, 192)) := by decide +kernel
theorem sw_86 : shF[86]? = some (.inl (.int, 3)) := by decide +kernel
theorem sw_87 : shF[87]? = some (.inl (.int, 3)) := by decide +kernel
theorem sw_88 : shF[88]? = some (.inl (.int, 60)) := by decide +kernel
theorem sw_89 : shF[89]? = some (.inl (.int, 3)) := by decide +kernel
theorem sw_90 : shF[90]? = some (.inl (.int, 8)) := by decide +kernel
theorem sw_91 : shF[91]? = some (.inl (.int, 8)) := by decide +kernel
theorem sw_92 : shF[92]? = some (.inl (.int, 8)) := by decide +kernel
theorem sw_93 : shF[93]? = some (.inl (.int, 3)) := by decide +kernel
theorem sw_94 : shF[94]? = some (.inl (.long, 1)) := by decide +kernel
