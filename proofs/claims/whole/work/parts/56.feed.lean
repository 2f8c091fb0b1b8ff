/-! signs fed -/
theorem zs_in {α : Type} {S : HS} {f : HS → Option α} : zs S f = f S := rfl
theorem z255 : ∀ i : Nat, i < 32 → (255#32).getLsbD i = decide (i < 8) := by decide
theorem zb8 (X : BitVec 64) (s : Nat) (hs : s ≤ 56) : (X.sshiftRight s).signExtend 32 &&& 255#32 = (X >>> s).signExtend 32 &&& 255#32 := by
  apply BitVec.eq_of_getLsbD_eq
  intro i hi
  rw [BitVec.getLsbD_and, BitVec.getLsbD_and, z255 i hi]
  by_cases c : i < 8
  · rw [BitVec.getLsbD_signExtend, BitVec.getLsbD_signExtend, BitVec.getLsbD_sshiftRight, BitVec.getLsbD_ushiftRight]
    simp [show i < 64 by omega, show s + i < 64 by omega, show ¬ 64 ≤ i by omega]
  · simp [c]
theorem zbyte {p s : Int} (hs : s = 56 ∨ s = 48 ∨ s = 40 ∨ s = 32 ∨ s = 24 ∨ s = 16 ∨ s = 8 ∨ s = 0) : zand (zl2i (zlushr p s)) 255 = zand (zl2i (zlshr p s)) 255 := by
  have key : ∀ a b : Int64, a.toInt32 &&& Int32.ofInt 255 = b.toInt32 &&& Int32.ofInt 255 → zand (zl2i a.toInt) 255 = zand (zl2i b.toInt) 255 := by
    intro a b h
    unfold zand zl2i
    rw [z_as6, z_as6, z_as, z_as, h]
  unfold zlushr zlshr
  refine key _ _ ?_
  apply Int32.toBitVec_inj.mp
  rcases hs with rfl | rfl | rfl | rfl | rfl | rfl | rfl | rfl
  · exact (zb8 (Int64.ofInt p).toBitVec 56 (by decide)).symm
  · exact (zb8 (Int64.ofInt p).toBitVec 48 (by decide)).symm
  · exact (zb8 (Int64.ofInt p).toBitVec 40 (by decide)).symm
  · exact (zb8 (Int64.ofInt p).toBitVec 32 (by decide)).symm
  · exact (zb8 (Int64.ofInt p).toBitVec 24 (by decide)).symm
  · exact (zb8 (Int64.ofInt p).toBitVec 16 (by decide)).symm
  · exact (zb8 (Int64.ofInt p).toBitVec 8 (by decide)).symm
  · exact (zb8 (Int64.ofInt p).toBitVec 0 (by decide)).symm
theorem zi2c_in {x : Int} (h0 : 0 ≤ x) (h1 : x ≤ 126) : zi2c x = x := by
  obtain ⟨n, rfl⟩ := Int.eq_ofNat_of_zero_le h0
  have : ∀ n : Nat, n < 127 → zi2c (n : Int) = n := by decide +kernel
  exact this n (by omega)
/-- what a run of eight signs does to a tape of either -/
def fBy (p s : Int) : Int := zand (zl2i (zlshr p s)) 255
def fOk (b : Int) : Prop := b = 10 ∨ 32 ≤ b ∧ b ≤ 126
def tpe (S : HS) : Prop := 0 ≤ S 40 1 ∧ S 40 1 ≤ 1000
section FE
variable {p : Int}
/-- one run of the class, beside one of the reference -/
theorem fe_run : ∀ (n : Nat) (v : Int) (S T : HS), (n : Int) * 8 = v + 8 → n ≤ 8 → S 40 1 = T 51 2 → 0 ≤ S 40 1 → S 40 1 ≤ 1000 → (∀ i : Int, 0 ≤ i → i < S 40 1 → S 41 i = T 52 i ∧ fOk (S 41 i)) → ∀ m1 m2 : Nat, n < m1 → n < m2 → zP (L_X9_putSigns_3 p m1 v S) (fun _ S' => zP (L_X12_lay_3 p m2 v T) (fun _ T' => S' 40 1 = T' 51 2 ∧ 0 ≤ S' 40 1 ∧ S' 40 1 ≤ 1000 ∧ (∀ i : Int, 0 ≤ i → i < S' 40 1 → S' 41 i = T' 52 i ∧ fOk (S' 41 i)))) := by
  intro n
  induction n with
  | zero =>
    intro v S T hv hn h1 h2 h3 h4 m1 m2 k1 k2
    obtain ⟨m1, rfl⟩ : ∃ m, m1 = m + 1 := ⟨m1 - 1, by omega⟩
    obtain ⟨m2, rfl⟩ : ∃ m, m2 = m + 1 := ⟨m2 - 1, by omega⟩
    rw [L_X9_putSigns_3.eq_2, if_pos (by omega), zP_ret, L_X12_lay_3.eq_2, if_pos (by omega), zP_ret]
    exact ⟨h1, h2, h3, h4⟩
  | succ n ih =>
    intro v S T hv hn h1 h2 h3 h4 m1 m2 k1 k2
    obtain ⟨m1, rfl⟩ : ∃ m, m1 = m + 1 := ⟨m1 - 1, by omega⟩
    obtain ⟨m2, rfl⟩ : ∃ m, m2 = m + 1 := ⟨m2 - 1, by omega⟩
    have e8 : v + -8 = v - 8 := by omega
    have hb : zand (zl2i (zlushr p v)) 255 = zand (zl2i (zlshr p v)) 255 := zbyte (by omega)
    rw [L_X9_putSigns_3.eq_2, if_neg (c := v < 0) (by omega), L_X12_lay_3.eq_2, if_neg (c := v < 0) (by omega), hb]
    generalize zand (zl2i (zlshr p v)) 255 = b
    have A : zP (J_X9_putSigns_42 (L_X9_putSigns_3 p m1) p v b S) (fun _ S' => zP (J_X12_lay_69 (L_X12_lay_3 p m2) p v T) (fun _ T' => S' 40 1 = T' 51 2 ∧ 0 ≤ S' 40 1 ∧ S' 40 1 ≤ 1000 ∧ (∀ i : Int, 0 ≤ i → i < S' 40 1 → S' 41 i = T' 52 i ∧ fOk (S' 41 i)))) := by
      unfold J_X9_putSigns_42 J_X9_putSigns_43 J_X9_putSigns_82 J_X12_lay_69
      rw [if_pos rfl, zl_in (by omega)]
      rw [zl_in (by omega)]
      exact ih (v + -8) S T (by omega) (by omega) h1 h2 h3 h4 m1 m2 (by omega) (by omega)
    have B : fOk b → zP (J_X9_putSigns_38 (L_X9_putSigns_3 p m1) p v b S) (fun _ S' => zP (J_X12_lay_38 (L_X12_lay_3 p m2) p v b T) (fun _ T' => S' 40 1 = T' 51 2 ∧ 0 ≤ S' 40 1 ∧ S' 40 1 ≤ 1000 ∧ (∀ i : Int, 0 ≤ i → i < S' 40 1 → S' 41 i = T' 52 i ∧ fOk (S' 41 i)))) := by
      intro ok
      have okb : 0 ≤ b ∧ b ≤ 126 := by
        unfold fOk at ok
        omega
      unfold J_X9_putSigns_38 J_X9_putSigns_43 J_X9_putSigns_82 J_X12_lay_38 J_X12_lay_69
      rw [if_neg (by decide)]
      by_cases c : 1000 ≤ S 40 1
      · rw [if_pos c, if_pos (by omega), zl_in (by omega)]
        rw [zl_in (by omega)]
        exact ih (v + -8) S T (by omega) (by omega) h1 h2 h3 h4 m1 m2 (by omega) (by omega)
      · rw [if_neg c, if_neg (by omega), zi2c_in okb.1 okb.2, zg_in (by omega), zg_in (by omega), zP_zs, zg_in (by omega)]
        simp only [zP_zs, up_eq, up_ne, up_nf, Nat.reduceBEq, Int.reduceBEq, true_and, and_true]
        rw [zl_in (by omega), zP_zs, zl_in (by omega)]
        rw [zl_in (v := T 51 2 + 1) (by omega)]
        simp only [zP_zs]
        rw [zl_in (v := v + -8) (by omega)]
        refine ih (v + -8) _ _ (by omega) (by omega) ?_ ?_ ?_ ?_ m1 m2 (by omega) (by omega)
        · simp only [up_eq, up_ne, up_nf, Nat.reduceBEq, Int.reduceBEq, true_and, and_true]
          omega
        · simp only [up_eq, up_ne, up_nf, Nat.reduceBEq, Int.reduceBEq, true_and, and_true]
          omega
        · simp only [up_eq, up_ne, up_nf, Nat.reduceBEq, Int.reduceBEq, true_and, and_true]
          omega
        · intro i i0 i1
          simp only [up_eq, up_ne, up_nf, Nat.reduceBEq, Int.reduceBEq, true_and, and_true] at i1
          show (if (41 : Nat) = 40 ∧ i = 1 then _ else up S 41 (S 40 1) b 41 i) = (if (52 : Nat) = 51 ∧ i = 2 then _ else up T 52 (T 51 2) b 52 i) ∧ fOk (if (41 : Nat) = 40 ∧ i = 1 then _ else up S 41 (S 40 1) b 41 i)
          rw [if_neg (by omega), if_neg (by omega), up_same, up_same]
          by_cases d : i = S 40 1
          · rw [if_pos d, if_pos (by omega)]
            exact ⟨rfl, ok⟩
          · rw [if_neg d, if_neg (by omega)]
            exact h4 i i0 (by omega)
    by_cases c1 : b = 10
    · rw [if_pos c1]
      simp only [if_pos c1]
      exact B (Or.inl c1)
    · rw [if_neg c1]
      simp only [if_neg c1]
      by_cases c2 : b < 32
      · rw [if_pos c2]
        simp only [if_pos c2]
        exact A
      · rw [if_neg c2]
        simp only [if_neg c2]
        by_cases c3 : 126 < b
        · rw [if_pos c3]
          simp only [if_pos c3]
          exact A
        · rw [if_neg c3]
          simp only [if_neg c3]
          exact B (Or.inr ⟨by omega, by omega⟩)
theorem fe_one {q : Int} {S : HS} (hp : rng6 q) (h1 : 0 ≤ S 40 1) (h2 : S 40 1 ≤ 1000) (h3 : ∀ i : Int, 0 ≤ i → i < S 40 1 → fOk (S 41 i)) (hW : WR shF S) : ∃ (r : Int) (S' : HS), M_X9_putSigns q S = some (r, S') ∧ WR shF S' ∧ zFr mA_X9_putSigns mO_X9_putSigns S S' ∧ 0 ≤ S' 40 1 ∧ S' 40 1 ≤ 1000 ∧ (∀ i : Int, 0 ≤ i → i < S' 40 1 → fOk (S' 41 i)) ∧ ∀ T : HS, S 40 1 = T 51 2 → (∀ i : Int, 0 ≤ i → i < S 40 1 → S 41 i = T 52 i) → ∃ (r' : Int) (T' : HS), M_X12_lay q T = some (r', T') ∧ S' 40 1 = T' 51 2 ∧ (∀ i : Int, 0 ≤ i → i < S' 40 1 → S' 41 i = T' 52 i) := by
  have g := fun (T : HS) (a : S 40 1 = T 51 2) (b : ∀ i : Int, 0 ≤ i → i < S 40 1 → S 41 i = T 52 i) => fe_run (p := q) 8 56 S T (by decide) (by decide) a h1 h2 (fun i i0 i1 => ⟨b i i0 i1, h3 i i0 i1⟩) zBig zBig (by decide) (by decide)
  obtain ⟨r, S', e, -⟩ := g (fun k i => if k = 51 then S 40 1 else S 41 i) rfl (fun i _ _ => rfl)
  have e' : M_X9_putSigns q S = some (r, S') := e
  obtain ⟨-, w, f⟩ := W_M_X9_putSigns hp hW r S' e'
  have k : 0 ≤ S' 40 1 ∧ S' 40 1 ≤ 1000 ∧ (∀ i : Int, 0 ≤ i → i < S' 40 1 → fOk (S' 41 i)) := by
    obtain ⟨r2, S2, e2, r3, T3, e3, q1, q2, q3, q4⟩ := g (fun k i => if k = 51 then S 40 1 else S 41 i) rfl (fun i _ _ => rfl)
    rw [e] at e2
    obtain ⟨-, rfl⟩ := Prod.mk.inj (Option.some.inj e2)
    exact ⟨q2, q3, fun i i0 i1 => (q4 i i0 i1).2⟩
  refine ⟨r, S', e', w, f, k.1, k.2.1, k.2.2, fun T a b => ?_⟩
  obtain ⟨r2, S2, e2, r3, T3, e3, q1, q2, q3, q4⟩ := g T a b
  rw [e] at e2
  obtain ⟨-, rfl⟩ := Prod.mk.inj (Option.some.inj e2)
  exact ⟨r3, T3, e3, q1, fun i i0 i1 => (q4 i i0 i1).1⟩
theorem ok_2 {S : HS} (hI : Inv S) : OK_2 Inv S := by
  intro a b c ra rb rc
  obtain ⟨hW, iL, iT, iW, iP, iR, iM, iA, iG, iC, iE, iK, iB⟩ := hI
  obtain ⟨t1, t2, t3, t4⟩ := id iT
  obtain ⟨_, S1, e1, w1, f1, x1, y1, z1, k1⟩ := fe_one ra t2 t3 (fun i i0 i1 => (t4 i i0 i1).2) hW
  obtain ⟨_, S2, e2, w2, f2, x2, y2, z2, k2⟩ := fe_one rb x1 y1 z1 w1
  obtain ⟨_, S3, e3, w3, f3, x3, y3, z3, k3⟩ := fe_one rc x2 y2 z2 w2
  have F := (f1.trans f2).trans f3
  have g51 : S3 51 2 = S 51 2 := F 51 2 (by decide) (by decide)
  have g52 : ∀ i, S3 52 i = S 52 i := fun i => congrFun (F.cell 52 (by decide) (by decide)) i
  obtain ⟨_, T1, d1, u1, v1⟩ := k1 (up S3 51 0 0) (by rw [← t1]; exact g51.symm) (fun i i0 i1 => by rw [← (t4 i i0 i1).1]; exact (g52 i).symm)
  obtain ⟨_, T2, d2, u2, v2⟩ := k2 T1 u1 v1
  obtain ⟨_, T3, d3, u3, v3⟩ := k3 T2 u2 v2
  have ec : M_X11_feed a b c S = some (S3 40 1, S3) := by
    unfold M_X11_feed
    rw [e1, zb_some, e2, zb_some, e3, zb_some]
  have em : M_X12_feed a b c S3 = some (T3 51 2, T3) := by
    unfold M_X12_feed
    rw [zs_in, d1, zb_some, d2, zb_some, d3, zb_some]
  obtain ⟨-, wT, fT⟩ := W_M_X12_feed ra rb rc w3 _ _ em
  refine ⟨S3 40 1, S3, T3, ec, w3, by rw [em, u3], wT, ?_⟩
  have G : zFr [41, 52] [(40, 1), (51, 0), (51, 2)] S T3 := ((F.mono (by decide) (by decide)).trans (fT.mono (by decide) (by decide)))
  have iT' : iTape T3 := by
    have h40 : T3 40 1 = S3 40 1 := fT 40 1 (by decide) (by decide)
    have h41 : T3 41 = S3 41 := fT.cell 41 (by decide) (by decide)
    unfold iTape
    rw [h40, h41]
    exact ⟨u3.symm, x3, y3, fun i i0 i1 => ⟨(v3 i i0 i1).symm, z3 i i0 i1⟩⟩
  have hc : ∀ (P : HS → Prop), (∀ V, P V = P (fun k i => if k = 41 ∨ k = 52 ∨ (k = 40 ∧ i = 1) ∨ (k = 51 ∧ i = 0) ∨ (k = 51 ∧ i = 2) then 0 else V k i)) → P S → P T3 := by
    intro P hP h
    rw [hP] at h ⊢
    have e : (fun k i => if k = 41 ∨ k = 52 ∨ (k = 40 ∧ i = 1) ∨ (k = 51 ∧ i = 0) ∨ (k = 51 ∧ i = 2) then (0 : Int) else T3 k i) = (fun k i => if k = 41 ∨ k = 52 ∨ (k = 40 ∧ i = 1) ∨ (k = 51 ∧ i = 0) ∨ (k = 51 ∧ i = 2) then (0 : Int) else S k i) := by
      funext k i
      by_cases q : k = 41 ∨ k = 52 ∨ (k = 40 ∧ i = 1) ∨ (k = 51 ∧ i = 0) ∨ (k = 51 ∧ i = 2)
      · rw [if_pos q, if_pos q]
      · rw [if_neg q, if_neg q]
        refine G k i (fun m => q ?_) (fun m => q ?_)
        · simp at m
          omega
        · simp at m
          omega
    rw [e]
    exact h
  exact ⟨hc iLen (fun _ => rfl) iL, iT', hc iWords (fun _ => rfl) iW, hc iPart (fun _ => rfl) iP, hc iRow (fun _ => rfl) iR, hc iMark (fun _ => rfl) iM, hc iAdd (fun _ => rfl) iA, hc iProg (fun _ => rfl) iG, hc iCrew (fun _ => rfl) iC, hc iReg (fun _ => rfl) iE, hc iTak (fun _ => rfl) iK, hc iBrd (fun _ => rfl) iB⟩
end FE
