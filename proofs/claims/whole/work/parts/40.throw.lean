/-! strand and look of the class: they answer or throw; the law's own two that catch -/
def zT : Int := 3000000000
def kTT : HS → zO2 := fun S => some (zT, S)
def nsE : String := "java/util/NoSuchElementException"
def nsN : List String := ["java/lang/RuntimeException", "java/lang/Exception"]
theorem zvx0 : ∀ w ∈ (vx_at0 RX11 149 nsE nsN).filter goodWord, w ∈ Tg := by decide +kernel
theorem zvx1 : ∀ w ∈ (vx_at0 RX11 149 nsE nsN).filter (fun w => !goodWord w), w ∈ Tn := by decide +kernel
theorem zvx2 : ∀ w ∈ Cond.classLink RX11 147 nsE :: Cond.initialized nsE :: vx_at0 RX11 149 nsE nsN, vx_ot w = true := by decide +kernel
theorem zvx3 : Cond.classLink RX11 147 nsE ∈ Tg ∧ Cond.initialized nsE ∈ Tg ∧ Cond.classLink RL 13 nsE ∈ Tg := by decide +kernel
theorem zvx4 : Cond.castable nsE nsE ∈ Tn := by decide +kernel
theorem zO_le {z : Zt} {cc : ByteArray} {own : String} {d d' : Nat} {σ0 : List SC} (h : zO z cc own d σ0) (hd : d' ≤ d) : zO z cc own d' σ0 := by
  obtain ⟨p, lc, e, R, s, m, args, below, meth, c, cells, slots, Q, σ, ad, D, cA, A⟩ := z
  obtain ⟨hx, hb, hown, hts, hK, hσ, hX, hfr, hlo, hce, hsl⟩ := h
  exact ⟨hx, hb, hown, hts, hK, hσ, hX, Nat.le_trans hd hfr, by omega, hce, hsl⟩
def zQr (σ : List SC) (ad : Nat → Nat) (D : va_G) (cA : FieldType → ClassId) (A : Nat → Prop) (r : Int) (S' : HS) : Array Value → State → Outcome → State → Prop := va_Qi (fun (v : Int32) (_ : Unit) => r ≠ zT ∧ v = Int32.ofInt r ∧ rng r) (fun _ t => va_P D vwCl (conc σ ad cA S') t.heap) A
def zXr (σ : List SC) (ad : Nat → Nat) (D : va_G) (cA : FieldType → ClassId) (A : Nat → Prop) (r : Int) (S' : HS) : String → State → State → Prop := vx_X (fun _ : Unit => r = zT) (fun E _ t => E = nsE ∧ va_P D vwCl (conc σ ad cA S') t.heap) A
theorem vx_go {y : MethodName} {cy : ByteArray} {mL D0 pcn : Nat} {args : List AV} {S S' : HS} {r : Int} (hyc : y.cls = RX11) (hpl : plainName y.cls = true) (hlen : (args.map avc).sum ≤ mL) (d0 : decode cy pcn = .ok (.new 147, 3)) (d3 : decode cy (pcn + 3) = .ok (.dup, 1)) (d4 : decode cy (pcn + 4) = .ok (.invokespecial 149, 3)) (d7 : decode cy (pcn + 7) = .ok (.athrow, 1)) (hD0 : 6 ≤ D0)
    (K : ∀ z : Zt, zO z cy RX11 D0 shX → zN z mL → (∀ (v : Int) (l : List (Nat × AV)) (S : HS) (pc : Nat), decode cy pc = .ok (.ireturn, 1) → rng v → WR shX S → (some (v, S) : zO2) = some (r, S') → zA z pc l [aI v] S) → (∀ S : HS, WR shX S → kTT S = some (r, S') → zA z pcn [] [] S) → zA z 0 (lvA 0 args) [] S)
    (lc : Launch) (hfl : lc.stackTraces = false) (σ : List SC) (ad : Nat → Nat) (D : va_G) (cA : FieldType → ClassId) (A : Nat → Prop) (hσ : ∀ (k : Nat) (q : SC), shX[k]? = some q → σ[k]? = some q) : vx_Met lc y (Cond.code y cy mL (some .int) :: Tg) (zIRm D0 1 6) (zIPc σ ad D cA A args S) (zQr σ ad D cA A r S') (zXr σ ad D cA A r S') 1 6 A := by
  refine vx_ofW (cc := cy) (maxL := mL) (ret := some .int) hpl rfl ?_
  intro p e s m args' below meth c s₁ B hml hexc hv
  obtain ⟨rfl, hP, hK, hD, hX, hA⟩ := hv
  have hts := atoms_spec (ws := Cond.code y cy mL (some .int) :: Tg) B.pre
  have hts : ∀ w ∈ Tg, w.before _ s = true := fun w hw => hts w (List.mem_cons_of_mem _ hw)
  have hown : s.vm.findClass y.cls = some m.cls := findClass_of_methodNamed B.named
  rw [hyc] at hown
  have hx := B.exec
  have hb := B.bytes
  have hr := B.returns
  have hlocks := B.notSynchronized
  have hl := lv_entry (args.map (cv ad)) (n := mL) (by rw [lvA_len]; exact hlen)
  rw [lg_entry_eq]
  generalize (lg_sl (args.map (cv ad)) ++ List.replicate (mL - (lg_sl (args.map (cv ad))).length) Slot.unset).toArray = ls at hl ⊢
  rw [lvA_map] at hl
  have hat : ∀ w ∈ vx_at0 RX11 149 nsE nsN, w.before _ s = true := fun w hw => by
    by_cases hg : goodWord w = true
    · exact hts w (zvx0 w (List.mem_filter.mpr ⟨hw, hg⟩))
    · have h1 := zvx1 w (List.mem_filter.mpr ⟨hw, by simp [hg]⟩)
      exact va_Nw.use (zTn_on h1) (hX.2.2.1 w h1)
  refine K (p, lc, e, _, s, m, _, below, meth, c, 0, 0, _, σ, ad, D, cA, A) ⟨hx, hb, hown, hts, hK, hσ, hX, Nat.le_refl _, Nat.le_refl _, Nat.zero_le _, Nat.zero_le _⟩ hml ?_ ?_ s.heap [] ls (by rw [hml]; exact hl) hP hD va_S.rf
  · intro v l S2 pc hd hrv hW hq H locs ls hv hP hD hS
    obtain ⟨rfl, rfl⟩ := Prod.mk.inj (Option.some.inj hq)
    refine W.widen (k := 1) (n := 6) (by omega) (by omega) ?_
    have hne : v ≠ zT := by
      have := hrv.2
      unfold zT
      omega
    exact vx_ret (W.iret hx hb hr (fun t ht _ => ⟨⟨_, (), rfl, ⟨hne, rfl, hrv⟩, by show va_P D vwCl (conc σ ad cA S2) t.heap; rw [ht]; exact hP⟩, hS.F ht⟩) hS.2.2 hd hlocks)
  · intro S2 hW hq H locs ls hv hP hD hS
    obtain ⟨rfl, rfl⟩ := Prod.mk.inj (Option.some.inj hq)
    refine vx_throw0 hx hb hfl hown (by decide +kernel) (by decide +kernel) (hts _ zvx3.1) (hts _ zvx3.2.1) hat zvx2 hX.2.2.2.2.2.1 hX.2.2.2.2.2.2 hS hv.1 d0 d3 d4 d7 (fun x hx => (hexc x hx).elim) (by show 2 + 3 < D0; omega) (by show 0 + (13 * (2 + 1) + 42) ≤ 60 * D0; omega) (Nat.le_refl 1) (Nat.le_refl 6) hlocks (fun t ht1 ht2 ht3 => ?_) hS.2.2 (Nat.le_refl 1) (Nat.le_refl 6)
    refine ⟨(), rfl, ⟨rfl, hP.kept (fun k q hk => ht3 q.1 (hP k q hk).lt)⟩, Nat.le_trans hS.1 ht2, fun q h1 h2 => ?_⟩
    rw [ht3 q (Nat.lt_of_lt_of_le h1 hS.1)]
    exact hS.2.1 q h1 h2
