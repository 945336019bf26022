/-! ===== Seen, Draws, Integer.bitCount, Math.floorMod ===== -/
def ushI (x y : Int) : Int := ((Int32.ofInt x).toUInt32 >>> ((Int32.ofInt y).toUInt32 &&& Int32.toUInt32 31)).toInt32.toInt
theorem ev_iushr {d : Md} {pc : Nat} {L : Lo} {S : List V} {K : List Kd} {M : Mm} {P : Pm} {k n : Nat} {Φ : Ps} {x y : Int} (hd : decode (dc d) pc = .ok (.iushr, 1)) (kk : Ev d (pc + 1) L (vI (ushI x y) :: S) K M P k n Φ) : Ev d pc L (vI y :: vI x :: S) K M P k n Φ := by
  intro p l e s m args below meth cd g Q F E X R H locs ls hH hS hl
  refine lv_iushr F.1 F.2.1 hd rfl ?_
  have h := kk p l e s m args below meth cd g Q F E X R H locs ls hH hS hl
  simp only [List.map_cons, cv, ushI, i_back] at h
  exact h
def isSe (c : Nat) : Prop := KK[c]? = some (.inl 5) ∧ KK[c + 1]? = some (.inr (.inl 6)) ∧ KK[c + 2]? = some (.inr (.inl 6)) ∧ PP c 0 = some (c + 1) ∧ PP c 1 = some (c + 2)
theorem isSe40 : isSe 40 := ⟨rfl, rfl, rfl, rfl, rfl⟩
theorem isSe48 : isSe 48 := ⟨rfl, rfl, rfl, rfl, rfl⟩
theorem wC22 : Cond.fieldLink RX5 22 RX5 "COULD" "[I" ∈ WSg ∨ ∃ host, Cond.fieldLinkNest RX5 22 RX5 "COULD" "[I" host ∈ WSn := Or.inl (wsg_in 751 (by decide +kernel) (by decide +kernel))
def srtV (w q : Int) : Int := if q = 0 then andI 31 (xorI (s_could.getD w.toNat 0) (-1)) else s_could.getD w.toNat 0
theorem c_seAppend {st w q : Int} (M : Mm) (h0 : 0 ≤ M 40 2) (h1 : M 40 2 < 6) (h2 : 0 ≤ w) (h3 : w < 4) (hq : inR q) : Cm mX5_append [vR 40, vI st, vI w, vI q] M (fun r M' => r = none ∧ M' = rwc (rwc (rwc M 41 (up1 (M 41) (M 40 2) st)) 42 (up1 (M 42) (M 40 2) (srtV w q))) 40 (up1 (M 40) 2 (M 40 2 + 1))) := by
  refine cm_of (by decide +kernel) (fun _ => trivial) (Nat.le_of_ble_eq_true rfl) ?_
  have rest : Ev mX5_append 40 [some (vR 40), some (vI st), some (vI w), some (vI q)] [vI (srtV w q), vI (M 40 2), vR 42] KK (rwc M 41 (up1 (M 41) (M 40 2) st)) PP 0 0 (Rz mX5_append (fun r M' => r = none ∧ M' = rwc (rwc (rwc M 41 (up1 (M 41) (M 40 2) st)) 42 (up1 (M 42) (M 40 2) (srtV w q))) 40 (up1 (M 40) 2 (M 40 2 + 1)))) := by
    refine ev_iastore dX5_append_40 (by first | rfl | assumption) (by omega) (by omega) (by decide) ?_
    first | refine ev_aload_n dX5_append_41 rfl ?_ | refine ev_aloadX_n dX5_append_41 rfl ?_
    refine ev_dup dX5_append_42 ?_
    refine ev_gI 2 dX5_append_43 fX5_18 rfl (by first | rfl | assumption) rfl ?_
    refine ev_iconst dX5_append_46 ?_
    refine ev_iadd dX5_append_47 ?_
    refine ev_pI 2 dX5_append_48 sX5_18 rfl (by first | rfl | assumption) rfl ?_
    refine ev_return dX5_append_51 rfl (rz ⟨rfl, ?_⟩)
    rw [upM_rw, upM_rw, rwc_ne (show (42 : Nat) ≠ 41 by decide), rwc_ne (show (40 : Nat) ≠ 42 by decide), rwc_ne (show (40 : Nat) ≠ 41 by decide)]
  first | refine ev_aload_n dX5_append_0 rfl ?_ | refine ev_aloadX_n dX5_append_0 rfl ?_
  refine ev_getR dX5_append_1 fX5_9 rfl (by first | rfl | assumption) (by first | rfl | assumption) ?_
  first | refine ev_aload_n dX5_append_4 rfl ?_ | refine ev_aloadX_n dX5_append_4 rfl ?_
  refine ev_gI 2 dX5_append_5 fX5_18 rfl (by first | rfl | assumption) rfl ?_
  refine ev_iload_n dX5_append_8 rfl ?_
  refine ev_iastore dX5_append_9 (by first | rfl | assumption) (by omega) (by omega) (by decide) ?_
  first | refine ev_aload_n dX5_append_10 rfl ?_ | refine ev_aloadX_n dX5_append_10 rfl ?_
  refine ev_getR dX5_append_11 fX5_15 rfl (by first | rfl | assumption) (by first | rfl | assumption) ?_
  first | refine ev_aload_n dX5_append_14 rfl ?_ | refine ev_aloadX_n dX5_append_14 rfl ?_
  refine ev_gI 2 dX5_append_15 fX5_18 rfl (by first | rfl | assumption) rfl ?_
  refine ev_iload_n dX5_append_18 rfl ?_
  rw [upM_rw, rwc_ne (show (40 : Nat) ≠ 41 by decide)]
  refine ev_if_eq (tgt := 30) dX5_append_19 (by decide) (by omega) (fun h => ?_) (fun h => ?_)
  · refine ev_bipush dX5_append_30 ?_
    refine ev_gcould dX5_append_32 wC22 ?_
    refine ev_iload_n dX5_append_35 rfl ?_
    refine ev_cald dX5_append_36 h2 h3 ?_
    refine ev_iconst dX5_append_37 ?_
    refine ev_ixor dX5_append_38 ?_
    refine ev_iand dX5_append_39 ?_
    refine ev_to rest ⟨rfl, rfl, rfl, rfl, trivial⟩ rfl ?_ rfl rfl
    rw [srtV, if_pos h]
  · refine ev_gcould dX5_append_22 wC22 ?_
    refine ev_iload_n dX5_append_25 rfl ?_
    refine ev_cald dX5_append_26 h2 h3 ?_
    refine ev_goto (tgt := 40) dX5_append_27 (by decide) ?_
    refine ev_to rest ⟨rfl, rfl, rfl, rfl, trivial⟩ rfl ?_ rfl rfl
    rw [srtV, if_neg h]
theorem c_seCopy {c c2 : Nat} (hs : isSe c) (hs' : isSe c2) (hd1 : c + 2 < c2 ∨ c2 + 2 < c) (M : Mm) : Cm mX5_copy [vR c, vR c2] M (fun r M' => r = none ∧ M' = rwc (rwc (rwc M c (up1 (M c) 2 (M c2 2))) (c + 1) (cpS 6 (M (c2 + 1)) (M (c + 1)))) (c + 2) (cpS 6 (M (c2 + 2)) (M (c + 2)))) := by
  obtain ⟨k0, k1, k2, p1, p2⟩ := hs
  obtain ⟨l0, l1, l2, o1, o2⟩ := hs'
  refine cm_of (by decide +kernel) (fun _ => trivial) (Nat.le_of_ble_eq_true rfl) ?_
  first | refine ev_aload_n dX5_copy_0 rfl ?_ | refine ev_aloadX_n dX5_copy_0 rfl ?_
  first | refine ev_aload_n dX5_copy_1 rfl ?_ | refine ev_aloadX_n dX5_copy_1 rfl ?_
  refine ev_gI 2 dX5_copy_2 fX5_18 rfl (by first | rfl | assumption) rfl ?_
  refine ev_pI 2 dX5_copy_5 sX5_18 rfl (by first | rfl | assumption) rfl ?_
  first | refine ev_aload_n dX5_copy_8 rfl ?_ | refine ev_aloadX_n dX5_copy_8 rfl ?_
  refine ev_getR dX5_copy_9 fX5_9 rfl (by first | rfl | assumption) (by first | rfl | assumption) ?_
  refine ev_iconst dX5_copy_12 ?_
  first | refine ev_aload_n dX5_copy_13 rfl ?_ | refine ev_aloadX_n dX5_copy_13 rfl ?_
  refine ev_getR dX5_copy_14 fX5_9 rfl (by first | rfl | assumption) (by first | rfl | assumption) ?_
  refine ev_iconst dX5_copy_17 ?_
  refine ev_bipush dX5_copy_18 ?_
  refine ev_acopy (K0 := l1) (K1 := k1) (n0 := 6) (n1 := 6) dX5_copy_20 aX5_25 (by omega) (by omega) (by omega) (by decide) (by decide) (by decide) ?_
  first | refine ev_aload_n dX5_copy_23 rfl ?_ | refine ev_aloadX_n dX5_copy_23 rfl ?_
  refine ev_getR dX5_copy_24 fX5_15 rfl (by first | rfl | assumption) (by first | rfl | assumption) ?_
  refine ev_iconst dX5_copy_27 ?_
  first | refine ev_aload_n dX5_copy_28 rfl ?_ | refine ev_aloadX_n dX5_copy_28 rfl ?_
  refine ev_getR dX5_copy_29 fX5_15 rfl (by first | rfl | assumption) (by first | rfl | assumption) ?_
  refine ev_iconst dX5_copy_32 ?_
  refine ev_bipush dX5_copy_33 ?_
  refine ev_acopy (K0 := l2) (K1 := k2) (n0 := 6) (n1 := 6) dX5_copy_35 aX5_25 (by omega) (by omega) (by omega) (by decide) (by decide) (by decide) ?_
  refine ev_return dX5_copy_38 rfl (rz ⟨rfl, ?_⟩)
  rw [upM_rw]
  have e1 : rwc M c (up1 (M c) 2 (M c2 2)) (c2 + 1) = M (c2 + 1) := rwc_ne (by omega)
  have e2 : rwc M c (up1 (M c) 2 (M c2 2)) (c + 1) = M (c + 1) := rwc_ne (by omega)
  have e3 : rwc M c (up1 (M c) 2 (M c2 2)) (c2 + 2) = M (c2 + 2) := rwc_ne (by omega)
  have e4 : rwc M c (up1 (M c) 2 (M c2 2)) (c + 2) = M (c + 2) := rwc_ne (by omega)
  generalize rwc M c (up1 (M c) 2 (M c2 2)) = N at *
  rw [e1, e2, rwc_ne (show c2 + 2 ≠ c + 1 by omega), rwc_ne (show c + 2 ≠ c + 1 by omega), e3, e4]
/-- the sorts that are left for a step -/
def soS (fs fo : Int → Int) (st : Int) : Nat → Int
  | 0 => 31
  | i + 1 => if fs i = st then andI (soS fs fo st i) (fo i) else soS fs fo st i
theorem c_sortsOf {c : Nat} (hs : isSe c) {st : Int} (M : Mm) {N : Nat} (hN : M c 2 = N) (hn : N ≤ 6) (hst : inR st) (hR : ∀ j, 0 ≤ j → j < 6 → inR (M (c + 1) j)) : Cm mX5_sortsOf [vR c, vI st] M (fun r M' => r = some (vI (soS (M (c + 1)) (M (c + 2)) st N)) ∧ M' = M) := by
  obtain ⟨k0, k1, k2, p1, p2⟩ := hs
  refine cm_of (by decide +kernel) (fun _ => trivial) (Nat.le_of_ble_eq_true rfl) ?_
  refine ev_bipush dX5_sortsOf_0 ?_
  refine ev_istore_n dX5_sortsOf_2 (by decide) ?_
  refine ev_iconst dX5_sortsOf_3 ?_
  refine ev_istore_n dX5_sortsOf_4 (by decide) ?_
  refine ev_to (L' := [some (vR c), some (vI st), some (vI (soS (M (c + 1)) (M (c + 2)) st 0)), some (vI ((0 : Nat) : Int))]) (S' := []) (M' := M) (k' := 0) (n' := 0) ?_ ⟨rfl, rfl, rfl, rfl, trivial⟩ rfl rfl rfl rfl
  refine up_loop (P := fun i => Ev mX5_sortsOf 5 [some (vR c), some (vI st), some (vI (soS (M (c + 1)) (M (c + 2)) st i)), some (vI (i : Int))] [] KK M PP 0 0 _) N ?_ ?_
  · refine ev_iload_n dX5_sortsOf_5 rfl ?_
    first | refine ev_aload_n dX5_sortsOf_6 rfl ?_ | refine ev_aloadX_n dX5_sortsOf_6 rfl ?_
    refine ev_gI 2 dX5_sortsOf_7 fX5_18 rfl (by first | rfl | assumption) rfl ?_
    refine ev_icmp_ge (tgt := 38) dX5_sortsOf_10 (by decide) (by omega) (by omega) (fun h => ?_) (fun h => ?_)
    · refine ev_iload_n dX5_sortsOf_38 rfl ?_
      exact ev_ireturn dX5_sortsOf_39 ⟨_, rfl, rfl⟩ (rz ⟨rfl, rfl⟩)
    · omega
  · intro i hi hP
    have b1 := hR (i : Int) (by omega) (by omega)
    simp only [soS] at hP
    refine ev_iload_n dX5_sortsOf_5 rfl ?_
    first | refine ev_aload_n dX5_sortsOf_6 rfl ?_ | refine ev_aloadX_n dX5_sortsOf_6 rfl ?_
    refine ev_gI 2 dX5_sortsOf_7 fX5_18 rfl (by first | rfl | assumption) rfl ?_
    refine ev_icmp_ge (tgt := 38) dX5_sortsOf_10 (by decide) (by omega) (by omega) (fun h => ?_) (fun h => ?_)
    · omega
    first | refine ev_aload_n dX5_sortsOf_13 rfl ?_ | refine ev_aloadX_n dX5_sortsOf_13 rfl ?_
    refine ev_getR dX5_sortsOf_14 fX5_9 rfl (by first | rfl | assumption) (by first | rfl | assumption) ?_
    refine ev_iload_n dX5_sortsOf_17 rfl ?_
    refine ev_iaload dX5_sortsOf_18 (by first | rfl | assumption) (by omega) (by omega) (by decide) ?_
    refine ev_iload_n dX5_sortsOf_19 rfl ?_
    refine ev_icmp_ne (tgt := 32) dX5_sortsOf_20 (by decide) (by omega) (by omega) (fun hq => ?_) (fun hq => ?_)
    · rw [if_neg hq] at hP
      refine ev_iinc dX5_sortsOf_32 rfl (by decide) ?_
      refine ev_goto (tgt := 5) dX5_sortsOf_35 (by decide) ?_
      exact ev_to hP ⟨rfl, rfl, rfl, rfl, trivial⟩ rfl rfl rfl rfl
    · rw [if_pos hq] at hP
      refine ev_iload_n dX5_sortsOf_23 rfl ?_
      first | refine ev_aload_n dX5_sortsOf_24 rfl ?_ | refine ev_aloadX_n dX5_sortsOf_24 rfl ?_
      refine ev_getR dX5_sortsOf_25 fX5_15 rfl (by first | rfl | assumption) (by first | rfl | assumption) ?_
      refine ev_iload_n dX5_sortsOf_28 rfl ?_
      refine ev_iaload dX5_sortsOf_29 (by first | rfl | assumption) (by omega) (by omega) (by decide) ?_
      refine ev_iand dX5_sortsOf_30 ?_
      refine ev_istore_n dX5_sortsOf_31 (by decide) ?_
      refine ev_iinc dX5_sortsOf_32 rfl (by decide) ?_
      refine ev_goto (tgt := 5) dX5_sortsOf_35 (by decide) ?_
      exact ev_to hP ⟨rfl, rfl, rfl, rfl, trivial⟩ rfl rfl rfl rfl
/-- a signed number that is not below 0 has no sign bit -/
theorem xor_nn {x y : Int} (hx : 0 ≤ x) (hx2 : x ≤ 2147483647) (hy : 0 ≤ y) (hy2 : y ≤ 2147483647) : 0 ≤ xorI x y ∧ inR (xorI x y) := by
  refine ⟨?_, i_rng _⟩
  unfold xorI
  have e2 : (Int32.ofInt x ^^^ Int32.ofInt y).toInt = if 2 * (Int32.ofInt x ^^^ Int32.ofInt y).toBitVec.toNat < 2 ^ 32 then ((Int32.ofInt x ^^^ Int32.ofInt y).toBitVec.toNat : Int) else ((Int32.ofInt x ^^^ Int32.ofInt y).toBitVec.toNat : Int) - ((2 ^ 32 : Nat) : Int) := BitVec.toInt_eq_toNat_cond _
  have nn : ∀ z : Int, 0 ≤ z → z ≤ 2147483647 → (Int32.ofInt z).toBitVec.toNat < 2 ^ 31 := by
    intro z h1 h2
    have e1 : (Int32.ofInt z).toInt = if 2 * (Int32.ofInt z).toBitVec.toNat < 2 ^ 32 then ((Int32.ofInt z).toBitVec.toNat : Int) else ((Int32.ofInt z).toBitVec.toNat : Int) - ((2 ^ 32 : Nat) : Int) := BitVec.toInt_eq_toNat_cond _
    rw [i_to (by omega)] at e1
    have hb : (Int32.ofInt z).toBitVec.toNat < 2 ^ 32 := (Int32.ofInt z).toBitVec.isLt
    split at e1 <;> omega
  have e3 : (Int32.ofInt x ^^^ Int32.ofInt y).toBitVec.toNat = (Int32.ofInt x).toBitVec.toNat ^^^ (Int32.ofInt y).toBitVec.toNat := by
    rw [Int32.toBitVec_xor, BitVec.toNat_xor]
  have h4 := Nat.xor_lt_two_pow (nn x hx hx2) (nn y hy hy2)
  rw [e2, e3]
  split <;> omega
theorem tmod_nn {x y : Int} (hx : 0 ≤ x) : x.tmod y = x % y := Int.tmod_eq_emod_of_nonneg hx
theorem c_floorMod {x y : Int} (hx : 0 ≤ x) (hx2 : x ≤ 2147483647) (hy : 0 < y) (hy2 : y ≤ 1000) (M : Mm) : Cm mJ9_floorMod_7cf53 [vI x, vI y] M (fun r M' => r = some (vI (x % y)) ∧ M' = M) := by
  have e := tmod_nn (y := y) hx
  have h1 := Int.emod_nonneg x (Int.ne_of_gt hy)
  have h2 := Int.emod_lt_of_pos x hy
  obtain ⟨q1, q2⟩ := xor_nn hx hx2 (Int.le_of_lt hy) (by omega)
  refine cm_of (by decide +kernel) (fun _ => trivial) (Nat.le_of_ble_eq_true rfl) ?_
  refine ev_iload_n dJ9_floorMod_7cf53_0 rfl ?_
  refine ev_iload_n dJ9_floorMod_7cf53_1 rfl ?_
  refine ev_irem dJ9_floorMod_7cf53_2 (by omega) (by omega) (by omega) (by omega) ?_
  refine ev_istore_n dJ9_floorMod_7cf53_3 (by decide) ?_
  refine ev_iload_n dJ9_floorMod_7cf53_4 rfl ?_
  refine ev_iload_n dJ9_floorMod_7cf53_5 rfl ?_
  refine ev_ixor dJ9_floorMod_7cf53_6 ?_
  rw [e]
  refine ev_if_ge (tgt := 18) dJ9_floorMod_7cf53_7 (by decide) (by omega) (fun h => ?_) (fun h => ?_)
  · refine ev_iload_n dJ9_floorMod_7cf53_18 rfl ?_
    exact ev_ireturn dJ9_floorMod_7cf53_19 ⟨_, rfl, rfl⟩ (rz ⟨rfl, rfl⟩)
  · omega
/-- the next seed, and what is drawn by it -/
def sdN (s : Int) : Int := andL (1103515245 * s + 12345) 2147483647
theorem sdN_val {s : Int} (h : 0 ≤ s) (h2 : s ≤ 2147483647) : sdN s = (1103515245 * s + 12345) % 2147483648 := by
  unfold sdN andL
  have hr : inL (1103515245 * s + 12345) := by omega
  generalize hx : 1103515245 * s + 12345 = x at hr
  have hx0 : 0 ≤ x := by omega
  have h0 : (Int64.ofInt 2147483647).toBitVec.toNat = 2 ^ 31 - 1 := by decide
  have e1 : (Int64.ofInt x).toInt = if 2 * (Int64.ofInt x).toBitVec.toNat < 2 ^ 64 then ((Int64.ofInt x).toBitVec.toNat : Int) else ((Int64.ofInt x).toBitVec.toNat : Int) - ((2 ^ 64 : Nat) : Int) := BitVec.toInt_eq_toNat_cond _
  rw [l_to hr] at e1
  have hb : (Int64.ofInt x).toBitVec.toNat < 2 ^ 64 := (Int64.ofInt x).toBitVec.isLt
  have e2 : (Int64.ofInt x &&& Int64.ofInt 2147483647).toInt = if 2 * (Int64.ofInt x &&& Int64.ofInt 2147483647).toBitVec.toNat < 2 ^ 64 then ((Int64.ofInt x &&& Int64.ofInt 2147483647).toBitVec.toNat : Int) else ((Int64.ofInt x &&& Int64.ofInt 2147483647).toBitVec.toNat : Int) - ((2 ^ 64 : Nat) : Int) := BitVec.toInt_eq_toNat_cond _
  have e3 : (Int64.ofInt x &&& Int64.ofInt 2147483647).toBitVec.toNat = (Int64.ofInt x).toBitVec.toNat % 2 ^ 31 := by
    rw [Int64.toBitVec_and, BitVec.toNat_and, h0, Nat.and_two_pow_sub_one_eq_mod]
  rw [e2, e3]
  generalize (Int64.ofInt x).toBitVec.toNat = n at e1 hb
  split at e1 <;> split <;> omega
theorem sdN_rng {s : Int} (h : 0 ≤ s) (h2 : s ≤ 2147483647) : 0 ≤ sdN s ∧ sdN s ≤ 2147483647 := by
  rw [sdN_val h h2]
  omega
def drV (s q : Int) : Int := sdN s / 65536 % q
theorem c_draw {q : Int} (M : Mm) (hq : 0 < q) (hq2 : q ≤ 100) (h : 0 ≤ M 51 0) (h2 : M 51 0 ≤ 2147483647) : Cm mX0_draw [vR 51, vI q] M (fun r M' => r = some (vI (drV (M 51 0) q)) ∧ M' = rwc M 51 (up1 (M 51) 0 (sdN (M 51 0)))) := by
  obtain ⟨r1, r2⟩ := sdN_rng h h2
  refine cm_of (by decide +kernel) (fun _ => trivial) (Nat.le_of_ble_eq_true rfl) ?_
  first | refine ev_aload_n dX0_draw_0 rfl ?_ | refine ev_aloadX_n dX0_draw_0 rfl ?_
  refine ev_ldc2 (z := 1103515245) dX0_draw_1 jX0_9 (by decide) ?_
  first | refine ev_aload_n dX0_draw_4 rfl ?_ | refine ev_aloadX_n dX0_draw_4 rfl ?_
  refine ev_gI 0 dX0_draw_5 fX0_11 rfl (by first | rfl | assumption) rfl ?_
  refine ev_i2l dX0_draw_8 (by omega) ?_
  refine ev_lmul dX0_draw_9 ?_
  refine ev_ldc2 (z := 12345) dX0_draw_10 jX0_17 (by decide) ?_
  refine ev_ladd dX0_draw_13 ?_
  refine ev_ldc2 (z := 2147483647) dX0_draw_14 jX0_19 (by decide) ?_
  refine ev_land dX0_draw_17 ?_
  refine ev_l2i dX0_draw_18 ?_
  have es : andL (1103515245 * M 51 0 + 12345) 2147483647 = sdN (M 51 0) := rfl
  rw [es]
  refine ev_pI 0 dX0_draw_19 sX0_11 rfl (by first | rfl | assumption) rfl ?_
  first | refine ev_aload_n dX0_draw_22 rfl ?_ | refine ev_aloadX_n dX0_draw_22 rfl ?_
  refine ev_gI 0 dX0_draw_23 fX0_11 rfl (by first | rfl | assumption) rfl ?_
  rw [upM_rw, rwc_at, up1_s]
  refine ev_ldc (z := 65536) dX0_draw_26 iX0_21 (by decide) ?_
  refine ev_idiv dX0_draw_28 (by omega) (by omega) (by omega) (by omega) ?_
  refine ev_iload_n dX0_draw_29 rfl ?_
  rw [Int.tdiv_eq_ediv_of_nonneg r1]
  refine ev_calls (c_floorMod (by omega) (by omega) hq (by omega) _) dX0_draw_30 tJ9_floorMod_7cf53.1 kX0_22 tJ9_floorMod_7cf53.2.1 tJ9_floorMod_7cf53.2.2 ⟨⟨Nat.le_of_ble_eq_true rfl, Nat.le_of_ble_eq_true rfl⟩, Nat.le_of_ble_eq_true rfl, Nat.le_of_ble_eq_true rfl⟩ rfl (Nat.le_of_ble_eq_true rfl) ?_
  rintro r K' M' P' ⟨rfl, rfl, rfl, hM'⟩
  rw [hM']
  clear hM' M'
  exact ev_ireturn dX0_draw_33 ⟨_, rfl, rfl⟩ (rz ⟨rfl, rfl⟩)
def popc : List Int := [0, 1, 1, 2, 1, 2, 2, 3, 1, 2, 2, 3, 2, 3, 3, 4, 1, 2, 2, 3, 2, 3, 3, 4, 2, 3, 3, 4, 3, 4, 4, 5]
def bcE (x : Int) : Int :=
  let a := x - andI (ushI x 1) 1431655765
  let b := andI a 858993459 + andI (ushI a 2) 858993459
  let c := andI (b + ushI b 4) 252645135
  let e := c + ushI c 8
  let g := e + ushI e 16
  andI g 63
theorem bcE_val : ∀ n : Fin 32, bcE ((n.val : Nat) : Int) = popc.getD n.val 0 := by decide
theorem c_bitCount {x : Int} (hx : 0 ≤ x) (hx2 : x < 32) (M : Mm) : Cm mJ6_bitCount_0f7a4 [vI x] M (fun r M' => r = some (vI (popc.getD x.toNat 0)) ∧ M' = M) := by
  have hv : bcE x = popc.getD x.toNat 0 := by
    have := bcE_val ⟨x.toNat, by omega⟩
    have e : ((x.toNat : Nat) : Int) = x := by omega
    simp only [e] at this
    exact this
  refine cm_of (by decide +kernel) (fun _ => trivial) (Nat.le_of_ble_eq_true rfl) ?_
  refine ev_iload_n dJ6_bitCount_0f7a4_0 rfl ?_
  refine ev_iload_n dJ6_bitCount_0f7a4_1 rfl ?_
  refine ev_iconst dJ6_bitCount_0f7a4_2 ?_
  refine ev_iushr dJ6_bitCount_0f7a4_3 ?_
  refine ev_ldcw (z := 1431655765) dJ6_bitCount_0f7a4_4 iJ6_265 (by decide) ?_
  refine ev_iand dJ6_bitCount_0f7a4_7 ?_
  refine ev_isub dJ6_bitCount_0f7a4_8 ?_
  refine ev_istore_n dJ6_bitCount_0f7a4_9 (by decide) ?_
  refine ev_iload_n dJ6_bitCount_0f7a4_10 rfl ?_
  refine ev_ldcw (z := 858993459) dJ6_bitCount_0f7a4_11 iJ6_266 (by decide) ?_
  refine ev_iand dJ6_bitCount_0f7a4_14 ?_
  refine ev_iload_n dJ6_bitCount_0f7a4_15 rfl ?_
  refine ev_iconst dJ6_bitCount_0f7a4_16 ?_
  refine ev_iushr dJ6_bitCount_0f7a4_17 ?_
  refine ev_ldcw (z := 858993459) dJ6_bitCount_0f7a4_18 iJ6_266 (by decide) ?_
  refine ev_iand dJ6_bitCount_0f7a4_21 ?_
  refine ev_iadd dJ6_bitCount_0f7a4_22 ?_
  refine ev_istore_n dJ6_bitCount_0f7a4_23 (by decide) ?_
  refine ev_iload_n dJ6_bitCount_0f7a4_24 rfl ?_
  refine ev_iload_n dJ6_bitCount_0f7a4_25 rfl ?_
  refine ev_iconst dJ6_bitCount_0f7a4_26 ?_
  refine ev_iushr dJ6_bitCount_0f7a4_27 ?_
  refine ev_iadd dJ6_bitCount_0f7a4_28 ?_
  refine ev_ldcw (z := 252645135) dJ6_bitCount_0f7a4_29 iJ6_267 (by decide) ?_
  refine ev_iand dJ6_bitCount_0f7a4_32 ?_
  refine ev_istore_n dJ6_bitCount_0f7a4_33 (by decide) ?_
  refine ev_iload_n dJ6_bitCount_0f7a4_34 rfl ?_
  refine ev_iload_n dJ6_bitCount_0f7a4_35 rfl ?_
  refine ev_bipush dJ6_bitCount_0f7a4_36 ?_
  refine ev_iushr dJ6_bitCount_0f7a4_38 ?_
  refine ev_iadd dJ6_bitCount_0f7a4_39 ?_
  refine ev_istore_n dJ6_bitCount_0f7a4_40 (by decide) ?_
  refine ev_iload_n dJ6_bitCount_0f7a4_41 rfl ?_
  refine ev_iload_n dJ6_bitCount_0f7a4_42 rfl ?_
  refine ev_bipush dJ6_bitCount_0f7a4_43 ?_
  refine ev_iushr dJ6_bitCount_0f7a4_45 ?_
  refine ev_iadd dJ6_bitCount_0f7a4_46 ?_
  refine ev_istore_n dJ6_bitCount_0f7a4_47 (by decide) ?_
  refine ev_iload_n dJ6_bitCount_0f7a4_48 rfl ?_
  refine ev_bipush dJ6_bitCount_0f7a4_49 ?_
  refine ev_iand dJ6_bitCount_0f7a4_51 ?_
  refine ev_ireturn dJ6_bitCount_0f7a4_52 ⟨_, rfl, rfl⟩ (rz ⟨?_, rfl⟩)
  rw [← hv]
  rfl
/-- four tests drawn: the seed and the bounds after i of them -/
def foS (s : Int) (f : Int → Int) : Nat → Int × (Int → Int)
  | 0 => (s, f)
  | i + 1 => (sdN (sdN (sdN (foS s f i).1)), limF (foS s f i).2 (drV (foS s f i).1 6) (drV (sdN (foS s f i).1) 6) (drV (sdN (sdN (foS s f i).1)) 12 - 4))
theorem drV_rng (s : Int) {q : Int} (hq : 0 < q) : 0 ≤ drV s q ∧ drV s q < q := ⟨Int.emod_nonneg _ (Int.ne_of_gt hq), Int.emod_lt_of_pos _ hq⟩
theorem foS_ok {s : Int} {f : Int → Int} (h : 0 ≤ s) (h2 : s ≤ 2147483647) (hB : bdd 100 f) : ∀ i : Nat, (0 ≤ (foS s f i).1 ∧ (foS s f i).1 ≤ 2147483647) ∧ bdd 100 (foS s f i).2 := by
  intro i
  induction i with
  | zero => exact ⟨⟨h, h2⟩, hB⟩
  | succ i ih =>
    obtain ⟨⟨q1, q2⟩, q3⟩ := ih
    obtain ⟨a1, a2⟩ := sdN_rng q1 q2
    obtain ⟨b1, b2⟩ := sdN_rng a1 a2
    refine ⟨sdN_rng b1 b2, bdd_lim q3 ?_⟩
    have := drV_rng (sdN (sdN (foS s f i).1)) (q := 12) (by omega)
    omega
