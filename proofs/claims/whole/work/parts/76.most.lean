/-! how much a row can weigh -/
theorem zsum_comm {f : Int → Int → Int} {n m : Nat} : zsum (fun i => zsum (fun j => f i j) m) n = zsum (fun j => zsum (fun i => f i j) n) m := by
  induction n with
  | zero => exact (zsum_0 (fun _ _ _ => rfl)).symm
  | succ n ih =>
    rw [zsum_s, ih, ← zsum_add]
    exact zsum_congr (fun _ _ _ => rfl)
theorem zsum_sel {f : Int → Int} {n : Nat} {a v : Int} (hf : ∀ i : Int, 0 ≤ i → i < n → f i = if i = a then v else 0) (hv : 0 ≤ v) : 0 ≤ zsum f n ∧ zsum f n ≤ v := by
  by_cases g : 0 ≤ a ∧ a < n
  · rw [zsum_one g.1 g.2 (fun i i0 i1 ne => by rw [hf i i0 i1, if_neg ne]), hf a g.1 g.2, if_pos rfl]
    exact ⟨hv, Int.le_refl _⟩
  · rw [zsum_0 (fun i i0 i1 => by rw [hf i i0 i1, if_neg (fun e => g (by omega))])]
    exact ⟨Int.le_refl _, hv⟩
section MO
variable {S : HS}
theorem gWs_eq (hI : iSum S) {r : Int} (r0 : 0 ≤ r) (r1 : r < S 7 11) (k : Nat) (hk : (k : Int) < S 10 r) : gWs S (cel S r k) = zsum (fun j => S 21 (cel S r j)) (k + 1) + zsum (fun j => S 12 (cel S r j)) (k + 1) := by
  have br := hI.2.2.2.2.2.2.2.2.2.2.2.br r0 r1
  induction k with
  | zero =>
    have a := br.1 (by omega)
    show S 29 (cel S r 0) + S 30 (cel S r 0) + S 31 (cel S r 0) = 0 + S 21 (cel S r 0) + (0 + S 12 (cel S r 0))
    omega
  | succ k ih =>
    have i := ih (by omega)
    have a := br.2 (k + 1 : Nat) (by omega) hk
    rw [show ((k + 1 : Nat) : Int) - 1 = (k : Int) by omega] at a
    rw [zsum_s (n := k + 1), zsum_s (n := k + 1)]
    unfold gWs at i ⊢
    by_cases g : ((k + 1 : Nat) : Int) % 2 = 1
    · have := a.1 g
      omega
    · have := a.2 (by omega)
      omega
theorem own_all (hI : iSum S) {r : Int} (r0 : 0 ≤ r) (r1 : r < S 7 11) (n : Nat) (hn : (n : Int) ≤ S 10 r) : zsum (fun j => S 21 (cel S r j)) n ≤ 19008 := by
  have iP := hI.2.2.2.1
  have iK := hI.2.2.2.2.2.2.2.2.2.2.1
  rw [zsum_congr (g := fun k => zsum (fun c => if S 19 c = 200 * r + k then S 2 c else 0) 192) (fun k k0 k1 => iK.2.2.2 r k r0 r1 k0 (by omega)), zsum_comm]
  have := zsum_bd (f := fun c => zsum (fun k => if S 19 c = 200 * r + k then S 2 c else 0) n) (n := 192) (c := 99) (fun c c0 c1 => by
    have a := iP.1.1 c c0 (by omega)
    have b := (iK.2.1 c c0 (by omega)).1
    by_cases g : S 2 c = -1
    · have e := b g
      have z : zsum (fun k => if S 19 c = 200 * r + k then S 2 c else 0) n = 0 := zsum_0 (fun k k0 k1 => by
        show (if S 19 c = 200 * r + k then S 2 c else 0) = 0
        rw [if_neg (by omega)])
      show 0 ≤ zsum (fun k => if S 19 c = 200 * r + k then S 2 c else 0) n ∧ zsum (fun k => if S 19 c = 200 * r + k then S 2 c else 0) n ≤ 99
      omega
    · have z := zsum_sel (f := fun k => if S 19 c = 200 * r + k then S 2 c else 0) (n := n) (a := S 19 c - 200 * r) (v := S 2 c) (fun k k0 k1 => by
        show (if S 19 c = 200 * r + k then S 2 c else 0) = if k = S 19 c - 200 * r then S 2 c else 0
        by_cases q : S 19 c = 200 * r + k
        · rw [if_pos q, if_pos (by omega)]
        · rw [if_neg q, if_neg (by omega)]) (by omega)
      show 0 ≤ zsum (fun k => if S 19 c = 200 * r + k then S 2 c else 0) n ∧ zsum (fun k => if S 19 c = 200 * r + k then S 2 c else 0) n ≤ 99
      omega)
  omega
theorem add_all (hI : iSum S) {r : Int} (r0 : 0 ≤ r) (r1 : r < S 7 11) (n : Nat) (hn : (n : Int) ≤ S 10 r) : zsum (fun j => S 12 (cel S r j)) n ≤ 5940 := by
  have hR := hI.2.2.2.2.1.c
  have iA := hI.2.2.2.2.2.2.1
  have h0 := iA.1
  rw [zsum_congr (g := fun k => zsum (fun i => if cel S (S 24 i) (S 25 i) = cel S r k then S 26 i else 0) (S 23 4).toNat) (fun k k0 k1 => by
    have c := cel_r hR r0 r1 k0 (show k < S 10 r by omega)
    exact iA.2.2.1 _ c.1 c.2), zsum_comm]
  have := zsum_bd (f := fun i => zsum (fun k => if cel S (S 24 i) (S 25 i) = cel S r k then S 26 i else 0) n) (n := (S 23 4).toNat) (c := 99) (fun i i0 i1 => by
    have z := iA.2.1 i i0 (by omega)
    show 0 ≤ zsum (fun k => if cel S (S 24 i) (S 25 i) = cel S r k then S 26 i else 0) n ∧ zsum (fun k => if cel S (S 24 i) (S 25 i) = cel S r k then S 26 i else 0) n ≤ 99
    by_cases g : S 24 i = r
    · have y := zsum_sel (f := fun k => if cel S (S 24 i) (S 25 i) = cel S r k then S 26 i else 0) (n := n) (a := S 25 i) (v := S 26 i) (fun k k0 k1 => by
        show (if cel S (S 24 i) (S 25 i) = cel S r k then S 26 i else 0) = if k = S 25 i then S 26 i else 0
        by_cases q : k = S 25 i
        · rw [if_pos q, q, g, if_pos rfl]
        · rw [if_neg q, if_neg]
          intro e
          exact q (cel_inj hR z.2.1 z.2.2.1 z.2.2.2.1 z.2.2.2.2.1 r0 r1 k0 (by omega) e).2.symm) (by omega)
      omega
    · have y : zsum (fun k => if cel S (S 24 i) (S 25 i) = cel S r k then S 26 i else 0) n = 0 := zsum_0 (fun k k0 k1 => by
        show (if cel S (S 24 i) (S 25 i) = cel S r k then S 26 i else 0) = 0
        rw [if_neg]
        intro e
        exact g (cel_inj hR z.2.1 z.2.2.1 z.2.2.2.1 z.2.2.2.2.1 r0 r1 k0 (by omega) e).1)
      omega)
  omega
theorem gMi_b (hI : iSum S) {r : Int} (r0 : 0 ≤ r) (r1 : r < S 7 11) : 0 ≤ gMi S r ∧ gMi S r ≤ 4000 := by
  have hr := hI.2.2.2.2.1.c.2.1 r r0 r1
  have t := (m_timesAdded hI r0 r1).2
  have g := gMi_r hI r0 r1
  have e := gWs_eq hI r0 r1 (S 10 r - 1).toNat (by omega)
  have a := own_all hI r0 r1 ((S 10 r - 1).toNat + 1) (by omega)
  have b := add_all hI r0 r1 ((S 10 r - 1).toNat + 1) (by omega)
  rw [show ((S 10 r - 1).toNat : Int) = S 10 r - 1 by omega] at e
  unfold gMi at g ⊢
  omega
end MO
