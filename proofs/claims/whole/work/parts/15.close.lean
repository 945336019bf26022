/-! ===== copying rows; Shape.close ===== -/
def cpS (z : Int) (f h : Int → Int) : Int → Int := fun j => if 0 ≤ j ∧ j < z then f j else h j
theorem w_nat : Cond.native arraycopyName ∈ WSg := wsg_in 490 (by decide +kernel) (by decide +kernel)
theorem w_sta : Cond.static arraycopyName ∈ WSg := wsg_in 489 (by decide +kernel) (by decide +kernel)
theorem w_sys : Cond.initialized "java/lang/System" ∈ WSg := wsg_in 88 (by decide +kernel) (by decide +kernel)
theorem aX7_28 : Cond.methodLink RX7 28 arraycopyName ∈ WSg := wsg_in 488 (by decide +kernel) (by decide +kernel)
theorem aX6_25 : Cond.methodLink RX6 25 arraycopyName ∈ WSg := wsg_in 520 (by decide +kernel) (by decide +kernel)
theorem aX5_25 : Cond.methodLink RX5 25 arraycopyName ∈ WSg := wsg_in 787 (by decide +kernel) (by decide +kernel)
theorem ev_acopy {d : Md} {pc : Nat} {L : Lo} {rest : List V} {K : List Kd} {M : Mm} {P : Pm} {k n : Nat} {Φ : Ps} {idx c0 c1 n0 n1 : Nat} {z : Int} (hd : decode (dc d) pc = .ok (.invokestatic idx, 3)) (hlk : Cond.methodLink (dy d).cls idx arraycopyName ∈ WSg) (K0 : K[c0]? = some (.inr (.inl n0))) (K1 : K[c1]? = some (.inr (.inl n1))) (hz : 0 ≤ z) (hz0 : z ≤ n0) (hz1 : z ≤ n1) (hN : n0 ≤ 2147483647) (hfr : 1 ≤ (dR d).frames) (hlo : (rest.map ct).sum + 18 ≤ (dR d).locals)
    (kk : Ev d (pc + 3) L rest K (rwc M c1 (cpS z (M c0) (M c1))) P k n Φ) : Ev d pc L (vI z :: vI 0 :: vR c1 :: vI 0 :: vR c0 :: rest) K M P k n Φ := by
  intro p l e s m args below meth cd g Q F E X R H locs ls hH hS hl
  have hts := F.2.2.2.2.2.1
  have hD := wl_D g K M P
  have ha0 := wl_at (g := g) (M := M) (P := P) K0
  have ha1 := wl_at (g := g) (M := M) (P := P) K1
  have hc0 : H[gb g + c0]? = some (vp_cell (gI g) (n0, .inl (fun j => Int32.ofInt (M c0 j)))) := hH.2 c0 _ ha0
  have hc1 : H[gb g + c1]? = some (vp_cell (gI g) (n1, .inl (fun j => Int32.ofInt (M c1 j)))) := hH.2 c1 _ ha1
  obtain ⟨-, k0, hk0, cm0, hkk0⟩ := (E.1.2 0 _ rfl).1 n0 (fun j => .int (Int32.ofInt (M c0 j)))
  obtain ⟨-, k1, hk1, cm1, hkk1⟩ := (E.1.2 0 _ rfl).1 n1 (fun j => .int (Int32.ofInt (M c1 j)))
  have zr : inR z := by omega
  have zt : (Int32.ofInt z).toInt = z := i_to zr
  have z0 : (Int32.ofInt 0).toInt = 0 := by decide
  have nz : ¬ Int32.ofInt z < 0 := by
    rw [Int32.lt_iff_toInt_lt, zt]
    have : (0 : Int32).toInt = 0 := by decide
    rw [this]
    omega
  have n00 : ¬ Int32.ofInt 0 < 0 := by decide
  have zc : (Int32.ofInt z).toNatClampNeg = z.toNat := by
    show (Int32.ofInt z).toInt.toNat = z.toNat
    rw [zt]
  have z0c : (Int32.ofInt 0).toNatClampNeg = 0 := by decide
  intro T hT X0
  obtain ⟨vm', X', step⟩ := X0.arraycopy F.1 F.2.2.2.2.1 (hts _ hlk) (hts _ w_nat) (hts _ w_sta) (hts _ w_sys) (src := gb g + c0) (dst := gb g + c1) (cs := vp_cell (gI g) (n0, .inl (fun j => Int32.ofInt (M c0 j)))) (cd := vp_cell (gI g) (n1, .inl (fun j => Int32.ofInt (M c1 j)))) (srcPos := Int32.ofInt 0) (destPos := Int32.ofInt 0) (n := Int32.ofInt z) (by rw [hT]; exact hc0) (by rw [hT]; exact hc1)
    (fun _ h => by cases h) (fun _ h => by cases h) (fun h => by cases h) (fun h => by cases h) hk0 hk1 hkk0 hkk1 (by rfl) n00 n00 nz
    (by rw [z0, zt]; show ¬ _ > ((arrV (gI g) n0 (fun j => .int (Int32.ofInt (M c0 j)))).slots.size : Int); rw [arrV_size]; omega)
    (by rw [z0, zt]; show ¬ _ > ((arrV (gI g) n1 (fun j => .int (Int32.ofInt (M c1 j)))).slots.size : Int); rw [arrV_size]; omega)
    (fun vm₁ _ i hi => by
      have hi2 : (Int32.ofInt 0).toNatClampNeg + i < n0 := by rw [z0c]; rw [zc] at hi; omega
      have e : (vp_cell (gI g) (n0, .inl (fun j => Int32.ofInt (M c0 j)))).slots.getD ((Int32.ofInt 0).toNatClampNeg + i) .null = .int (Int32.ofInt (M c0 (((Int32.ofInt 0).toNatClampNeg + i : Nat) : Int))) := by
        show (arrV (gI g) n0 (fun j => .int (Int32.ofInt (M c0 j)))).slots.getD _ _ = _
        rw [Array.getD_eq_getD_getElem?, arrV_read _ _ hi2]
        rfl
      refine ⟨?_, ?_⟩
      · rw [e]
        rfl
      · rw [e]
        exact trivial)
    (g := F0 m pc ls ((vI z :: vI 0 :: vR c1 :: vI 0 :: vR c0 :: rest).map (cv g))) rfl (by rw [F.2.2.2.1]; exact hl.1) (rest := rest.map (cv g)) rfl (by rw [F.2.1]; exact hd) hfr (by
      have : ((rest.map (cv g)).map fun v => v.category).sum = (rest.map ct).sum := by
        rw [List.map_map]
        have : (fun v => v.category) ∘ cv g = ct := funext fun v => ct_cv g v
        rw [this]
      show 2 * 0 + ((rest.map (cv g)).map fun v => v.category).sum + (nativeFrameWords "java/lang/System" "arraycopy" 5 + 11) ≤ _
      rw [this]
      have hw : nativeFrameWords "java/lang/System" "arraycopy" 5 = 7 := by decide
      rw [hw]
      omega)
  have e1 : copied (vp_cell (gI g) (n0, .inl (fun j => Int32.ofInt (M c0 j)))) (vp_cell (gI g) (n1, .inl (fun j => Int32.ofInt (M c1 j)))) (Int32.ofInt 0) (Int32.ofInt 0) (Int32.ofInt z) = vp_cell (gI g) (n1, .inl (va_cpy (fun j => Int32.ofInt (M c0 j)) (fun j => Int32.ofInt (M c1 j)) (Int32.ofInt 0).toNatClampNeg (Int32.ofInt 0).toNatClampNeg (Int32.ofInt z).toNatClampNeg)) := va_copied (fun z => .int z) (gI g) (gI g) (fun j => Int32.ofInt (M c0 j)) (fun j => Int32.ofInt (M c1 j)) (by rw [z0c, zc]; omega)
  have e2 : va_cpy (fun j : Nat => Int32.ofInt (M c0 j)) (fun j : Nat => Int32.ofInt (M c1 j)) (Int32.ofInt 0).toNatClampNeg (Int32.ofInt 0).toNatClampNeg (Int32.ofInt z).toNatClampNeg = fun j : Nat => Int32.ofInt (rwc M c1 (cpS z (M c0) (M c1)) c1 j) := by
    funext j
    rw [z0c, zc, rwc_at]
    simp only [va_cpy, cpS]
    by_cases hj : (j : Int) < z
    · rw [if_pos (by omega), if_pos (by omega)]
      congr 2
      omega
    · rw [if_neg (by omega), if_neg (by omega)]
  rw [e1, e2] at X' step
  have hl1 : gb g + c1 < H.size := (Array.getElem?_eq_some_iff.mp hc1).1
  have hheap : ((T.setVm vm').setCell (gb g + c1) (vp_cell (gI g) (n1, .inl (fun j : Nat => Int32.ofInt (rwc M c1 (cpS z (M c0) (M c1)) c1 j))))).heap = H.setIfInBounds (gb g + c1) (vp_cell (gI g) (n1, .inl (fun j : Nat => Int32.ofInt (rwc M c1 (cpS z (M c0) (M c1)) c1 j)))) := by rw [← hT]; rfl
  have oq : ∀ q : Nat, q ≠ gb g + c1 → (H.setIfInBounds (gb g + c1) (vp_cell (gI g) (n1, .inl (fun j : Nat => Int32.ofInt (rwc M c1 (cpS z (M c0) (M c1)) c1 j)))))[q]? = H[q]? := fun q hq => by simp [Array.getElem?_setIfInBounds, Ne.symm hq]
  have hP2 := hH.2.set (e := kE g (rwc M c1 (cpS z (M c0) (M c1))) P c1 (.inr (.inl n1))) hD ha1 (show (H.setIfInBounds (gb g + c1) _)[gb g + c1]? = some _ by simp [Array.getElem?_setIfInBounds, hl1]) oq
  rw [wl_set K1 (fun q i h => by rw [rwc_ne h]) (fun _ _ _ => rfl)] at hP2
  obtain ⟨t, a1, b1⟩ := kk p l e s m args below meth cd g Q F E X R _ _ ls ⟨by rw [← hH.1]; simp, hP2⟩ ⟨by simp; exact hS.1, fun q g1 g2 => by
      rw [oq q (fun e => g2 (by rw [e]; exact hD.2 c1 _ ha1))]
      exact hS.2.1 q g1 g2, fun q hq => by
      rcases List.mem_append.mp hq with h | h
      · exact hS.2.2 q h
      · obtain ⟨z, -, hz⟩ := List.mem_map.mp h
        rw [← hz]
        exact hD.2 c1 _ ha1⟩ hl _ hheap X'
  exact ⟨t, step t a1, b1⟩
theorem nat_even {n : Nat} (h : n < 4294967296) : n &&& 4294967294 = n - n % 2 := by
  have e : n - n % 2 = 2 * (n / 2) := by omega
  rw [e]
  apply Nat.eq_of_testBit_eq
  intro i
  rw [Nat.testBit_and]
  cases i with
  | zero => simp [Nat.testBit_zero]
  | succ i =>
    rw [Nat.testBit_succ, Nat.testBit_succ, Nat.testBit_succ, ← Nat.testBit_and]
    have h1 : 4294967294 / 2 = 2 ^ 31 - 1 := by decide
    rw [h1, Nat.and_two_pow_sub_one_eq_mod, Nat.mod_eq_of_lt (by omega)]
    congr 1
    omega
theorem and_m2 {x : Int} (h : inR x) : andI x (-2) = 2 * (x / 2) := by
  unfold andI
  have h0 : (Int32.ofInt (-2)).toBitVec.toNat = 4294967294 := by decide
  have hx : (Int32.ofInt x).toInt = x := i_to h
  have e1 : (Int32.ofInt x).toInt = if 2 * (Int32.ofInt x).toBitVec.toNat < 2 ^ 32 then ((Int32.ofInt x).toBitVec.toNat : Int) else ((Int32.ofInt x).toBitVec.toNat : Int) - ((2 ^ 32 : Nat) : Int) := BitVec.toInt_eq_toNat_cond _
  have e2 : (Int32.ofInt x &&& Int32.ofInt (-2)).toInt = if 2 * (Int32.ofInt x &&& Int32.ofInt (-2)).toBitVec.toNat < 2 ^ 32 then ((Int32.ofInt x &&& Int32.ofInt (-2)).toBitVec.toNat : Int) else ((Int32.ofInt x &&& Int32.ofInt (-2)).toBitVec.toNat : Int) - ((2 ^ 32 : Nat) : Int) := BitVec.toInt_eq_toNat_cond _
  have e3 : (Int32.ofInt x &&& Int32.ofInt (-2)).toBitVec.toNat = (Int32.ofInt x).toBitVec.toNat &&& 4294967294 := by
    rw [Int32.toBitVec_and, BitVec.toNat_and, h0]
  have hb : (Int32.ofInt x).toBitVec.toNat < 4294967296 := (Int32.ofInt x).toBitVec.isLt
  rw [nat_even hb] at e3
  rw [e2, e3]
  rw [hx] at e1
  generalize (Int32.ofInt x).toBitVec.toNat = n at e1 hb
  split at e1 <;> split <;> omega
