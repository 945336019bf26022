/-! ===== the six texts: length, charAt, indexOf ===== -/
theorem w_val : Cond.fieldLink "java/lang/String" 9 "java/lang/String" "value" "[B" ∈ WSg := wsg_in 1280 (by decide +kernel) (by decide +kernel)
theorem w_cod : Cond.fieldLink "java/lang/String" 15 "java/lang/String" "coder" "B" ∈ WSg := wsg_in 1279 (by decide +kernel) (by decide +kernel)
theorem w_cmp : Cond.fieldLink "java/lang/String" 38 "java/lang/String" "COMPACT_STRINGS" "Z" ∈ WSg := wsg_in 345 (by decide +kernel) (by decide +kernel)
theorem w_fmt : Cond.fieldLink "java/lang/String" 1053 "jdk/internal/util/Preconditions" "SIOOBE_FORMATTER" "Ljava/util/function/BiFunction;" ∈ WSg := wsg_in 388 (by decide +kernel) (by decide +kernel)
/-- letter j of text i -/
def sCh (i j : Nat) : Int := ((s_byt.getD i []).getD j 0).toInt
section RulesS
variable {d : Md} {pc : Nat} {L : Lo} {S : List V} {K : List Kd} {M : Mm} {P : Pm} {k n : Nat} {Φ : Ps}
theorem ev_ldcT {i : Nat} (hi : i < 6) (hown : (dy d).cls = RX3) (hd : decode (dc d) pc = .ok (.ldc (s_ix.getD i 0), 2)) (kk : Ev d (pc + 2) L (vX (2 + i) :: S) K M P k n Φ) : Ev d pc L S K M P k n Φ := by
  intro p l e s m args below meth cd g Q F E X R H locs ls hH hS hl
  obtain ⟨a0, a1, adK, adV, e0, e1, e2, e3, g1, g2, g3, g4, g5, g6, g7, g8⟩ := E.2.2.1
  have h := kk p l e s m args below meth cd g Q F E X R H locs ls hH hS hl
  simp only [List.map_cons, cv, e2 i hi, va_rf] at h
  have ho := F.2.2.2.2.1
  rw [hown] at ho
  exact va_ldcS F.1 F.2.1 ho (g8 i hi) hd h
theorem ev_sval {i : Nat} (hi : i < 6) (hw : Cond.fieldLink (dy d).cls 9 "java/lang/String" "value" "[B" ∈ WSg) (hd : decode (dc d) pc = .ok (.getfield 9, 3)) (kk : Ev d (pc + 3) L (vX (8 + i) :: S) K M P k n Φ) : Ev d pc L (vX (2 + i) :: S) K M P k n Φ := by
  intro p l e s m args below meth cd g Q F E X R H locs ls hH hS hl
  obtain ⟨a0, a1, adK, adV, e0, e1, e2, e3, g1, g2, g3, g4, g5, g6, g7, g8⟩ := E.2.2.1
  have h := kk p l e s m args below meth cd g Q F E X R H locs ls hH hS hl
  simp only [List.map_cons, cv, e3 i hi, va_rf] at h
  show W p l e (dR d) s m args below meth cd H locs k n Q (F0 m pc ls (va_rf (gx g (2 + i)) :: S.map (cv g)))
  rw [e2 i hi]
  exact vk_getf F.1 F.2.1 (g7.1 i hi).2.2.1 hS F.2.2.2.2.1 (F.2.2.2.2.2.1 _ hw) (fun _ z => z) hd h
theorem ev_scod {i : Nat} (hi : i < 6) (hw : Cond.fieldLink (dy d).cls 15 "java/lang/String" "coder" "B" ∈ WSg) (hd : decode (dc d) pc = .ok (.getfield 15, 3)) (kk : Ev d (pc + 3) L (vI 0 :: S) K M P k n Φ) : Ev d pc L (vX (2 + i) :: S) K M P k n Φ := by
  intro p l e s m args below meth cd g Q F E X R H locs ls hH hS hl
  obtain ⟨a0, a1, adK, adV, e0, e1, e2, e3, g1, g2, g3, g4, g5, g6, g7, g8⟩ := E.2.2.1
  have h := kk p l e s m args below meth cd g Q F E X R H locs ls hH hS hl
  show W p l e (dR d) s m args below meth cd H locs k n Q (F0 m pc ls (va_rf (gx g (2 + i)) :: S.map (cv g)))
  rw [e2 i hi]
  exact vk_getf F.1 F.2.1 (g7.1 i hi).2.1 hS F.2.2.2.2.1 (F.2.2.2.2.2.1 _ hw) (fun _ z => z) hd h
theorem ev_scmp (hw : Cond.fieldLink (dy d).cls 38 "java/lang/String" "COMPACT_STRINGS" "Z" ∈ WSg) (hd : decode (dc d) pc = .ok (.getstatic 38, 3)) (kk : Ev d (pc + 3) L (vI 1 :: S) K M P k n Φ) : Ev d pc L S K M P k n Φ := by
  intro p l e s m args below meth cd g Q F E X R H locs ls hH hS hl
  obtain ⟨a0, a1, adK, adV, e0, e1, e2, e3, g1, g2, g3, g4, g5, g6, g7, g8⟩ := E.2.2.1
  exact va_gets F.1 F.2.1 g5 hS F.2.2.2.2.1 (F.2.2.2.2.2.1 _ hw) (fun _ z => z) hd (kk p l e s m args below meth cd g Q F E X R H locs ls hH hS hl)
theorem ev_sfmt (hw : Cond.fieldLink (dy d).cls 1053 "jdk/internal/util/Preconditions" "SIOOBE_FORMATTER" "Ljava/util/function/BiFunction;" ∈ WSg) (hd : decode (dc d) pc = .ok (.getstatic 1053, 3)) (kk : Ev d (pc + 3) L (vX 14 :: S) K M P k n Φ) : Ev d pc L S K M P k n Φ := by
  intro p l e s m args below meth cd g Q F E X R H locs ls hH hS hl
  obtain ⟨a0, a1, adK, adV, e0, e1, e2, e3, g1, g2, g3, g4, g5, g6, g7, g8⟩ := E.2.2.1
  exact va_gets F.1 F.2.1 g6 hS F.2.2.2.2.1 (F.2.2.2.2.2.1 _ hw) (fun _ z => z) hd (kk p l e s m args below meth cd g Q F E X R H locs ls hH hS hl)
theorem ev_stlen {i : Nat} (hi : i < 6) (hd : decode (dc d) pc = .ok (.arraylength, 1)) (kk : Ev d (pc + 1) L (vI (s_len.getD i 0 : Nat) :: S) K M P k n Φ) : Ev d pc L (vX (8 + i) :: S) K M P k n Φ := by
  intro p l e s m args below meth cd g Q F E X R H locs ls hH hS hl
  obtain ⟨a0, a1, adK, adV, e0, e1, e2, e3, g1, g2, g3, g4, g5, g6, g7, g8⟩ := E.2.2.1
  show W p l e (dR d) s m args below meth cd H locs k n Q (F0 m pc ls (va_rf (gx g (8 + i)) :: S.map (cv g)))
  rw [e3 i hi]
  exact va_tlen F.1 F.2.1 (g7.1 i hi).2.2.2 hS (v := Int32.ofInt (s_len.getD i 0 : Nat)) (by rw [Int32.ofInt_eq_ofNat]) hd (kk p l e s m args below meth cd g Q F E X R H locs ls hH hS hl)
theorem ev_sbald {i : Nat} {j : Int} (hi : i < 6) (hd : decode (dc d) pc = .ok (.baload, 1)) (h0 : 0 ≤ j) (h1 : j < (s_len.getD i 0 : Nat)) (h2 : s_len.getD i 0 ≤ 5) (kk : Ev d (pc + 1) L (vI (sCh i j.toNat) :: S) K M P k n Φ) : Ev d pc L (vI j :: vX (8 + i) :: S) K M P k n Φ := by
  intro p l e s m args below meth cd g Q F E X R H locs ls hH hS hl
  obtain ⟨a0, a1, adK, adV, e0, e1, e2, e3, g1, g2, g3, g4, g5, g6, g7, g8⟩ := E.2.2.1
  obtain ⟨b1, b2, -⟩ := i_idx h0 h1 (by omega)
  show W p l e (dR d) s m args below meth cd H locs k n Q (F0 m pc ls (cv g (vI j) :: va_rf (gx g (8 + i)) :: S.map (cv g)))
  rw [e3 i hi]
  have := kk p l e s m args below meth cd g Q F E X R H locs ls hH hS hl
  simp only [List.map_cons, cv, sCh, i_back] at this
  exact va_tb F.1 F.2.1 (g7.1 i hi).2.2.2 hS b1 (by rw [b2]) hd this
theorem ev_i2b {x : Int} (hd : decode (dc d) pc = .ok (.i2b, 1)) (hx : (Int32.ofInt x).toInt8.toInt32 = Int32.ofInt x) (kk : Ev d (pc + 1) L (vI x :: S) K M P k n Φ) : Ev d pc L (vI x :: S) K M P k n Φ := by
  intro p l e s m args below meth cd g Q F E X R H locs ls hH hS hl
  exact lv_i2b F.1 F.2.1 hd hx (kk p l e s m args below meth cd g Q F E X R H locs ls hH hS hl)
end RulesS
theorem sl5 : ∀ i, i < 6 → s_len.getD i 0 ≤ 5 ∧ 1 ≤ s_len.getD i 0 := by decide
theorem sCh_rng : ∀ i, i < 6 → ∀ j, j < 5 → 0 ≤ sCh i j ∧ sCh i j ≤ 127 := by decide
theorem i2b_id : ∀ n : Fin 128, (Int32.ofInt ((n.val : Nat) : Int)).toInt8.toInt32 = Int32.ofInt ((n.val : Nat) : Int) := by decide
theorem and255 : ∀ n : Fin 128, andI ((n.val : Nat) : Int) 255 = ((n.val : Nat) : Int) := by decide
theorem and255' {x : Int} (h : 0 ≤ x) (h2 : x ≤ 127) : andI x 255 = x := by
  have := and255 ⟨x.toNat, by omega⟩
  simp only [show ((x.toNat : Nat) : Int) = x by omega] at this
  exact this
theorem i2b' {x : Int} (h : 0 ≤ x) (h2 : x ≤ 127) : (Int32.ofInt x).toInt8.toInt32 = Int32.ofInt x := by
  have := i2b_id ⟨x.toNat, by omega⟩
  simp only [show ((x.toNat : Nat) : Int) = x by omega] at this
  exact this
theorem shr0 : ∀ n : Fin 6, shrI ((n.val : Nat) : Int) 0 = ((n.val : Nat) : Int) := by decide
theorem okR_c {d : Md} {z : Int} (h : dr d = some .char) (h0 : 0 ≤ z) (h1 : z ≤ 127) : okR d z := by
  refine ⟨.char, h, ?_⟩
  have e : Int32.ofInt z = nI z.toNat := by
    rw [← Int32.toInt_inj, i_to (by omega), nI_toInt (by omega)]
    omega
  rw [e]
  exact (pk_charN (by omega)).1
theorem c_coder {i : Nat} (hi : i < 6) (M : Mm) : Cm mJ0_coder_7d493 [vX (2 + i)] M (fun r M' => r = some (vI 0) ∧ M' = M) := by
  refine cm_of (by decide +kernel) (fun _ => trivial) (Nat.le_of_ble_eq_true rfl) ?_
  refine ev_scmp w_cmp dJ0_coder_7d493_0 ?_
  refine ev_if_eq (tgt := 13) dJ0_coder_7d493_3 (by decide) (by omega) (fun h => ?_) (fun h => ?_)
  · omega
  refine ev_aloadX_n dJ0_coder_7d493_6 rfl ?_
  refine ev_scod hi w_cod dJ0_coder_7d493_7 ?_
  refine ev_goto (tgt := 14) dJ0_coder_7d493_10 (by decide) ?_
  exact ev_ireturn dJ0_coder_7d493_14 ⟨_, rfl, rfl⟩ (rz ⟨rfl, rfl⟩)
theorem c_isLatin1 {i : Nat} (hi : i < 6) (M : Mm) : Cm mJ0_isLatin1_aae02 [vX (2 + i)] M (fun r M' => r = some (vI 1) ∧ M' = M) := by
  refine cm_of (by decide +kernel) (fun _ => trivial) (Nat.le_of_ble_eq_true rfl) ?_
  refine ev_scmp w_cmp dJ0_isLatin1_aae02_0 ?_
  refine ev_if_eq (tgt := 17) dJ0_isLatin1_aae02_3 (by decide) (by omega) (fun h => ?_) (fun h => ?_)
  · omega
  refine ev_aloadX_n dJ0_isLatin1_aae02_6 rfl ?_
  refine ev_scod hi w_cod dJ0_isLatin1_aae02_7 ?_
  refine ev_if_ne (tgt := 17) dJ0_isLatin1_aae02_10 (by decide) (by omega) (fun h2 => ?_) (fun h2 => ?_)
  · omega
  refine ev_iconst dJ0_isLatin1_aae02_13 ?_
  refine ev_goto (tgt := 18) dJ0_isLatin1_aae02_14 (by decide) ?_
  exact ev_ireturn dJ0_isLatin1_aae02_18 (okR_z rfl (by first | exact Or.inl rfl | exact Or.inr rfl | assumption)) (rz ⟨rfl, rfl⟩)
theorem c_length {i : Nat} (hi : i < 6) (M : Mm) : Cm mJ0_length_8abf5 [vX (2 + i)] M (fun r M' => r = some (vI (s_len.getD i 0 : Nat)) ∧ M' = M) := by
  have h5 := sl5 i hi
  refine cm_of (by decide +kernel) (fun _ => trivial) (Nat.le_of_ble_eq_true rfl) ?_
  refine ev_aloadX_n dJ0_length_8abf5_0 rfl ?_
  refine ev_sval hi w_val dJ0_length_8abf5_1 ?_
  refine ev_stlen hi dJ0_length_8abf5_4 ?_
  refine ev_aloadX_n dJ0_length_8abf5_5 rfl ?_
  refine ev_callX (i := i) hi (c_coder hi _) dJ0_length_8abf5_6 tJ0_coder_7d493.1 (wsg_in 351 (by decide +kernel) (by decide +kernel)) tJ0_coder_7d493.2.1 tJ0_coder_7d493.2.2.1 tJ0_coder_7d493.2.2.2 ⟨⟨Nat.le_of_ble_eq_true rfl, Nat.le_of_ble_eq_true rfl⟩, Nat.le_of_ble_eq_true rfl, Nat.le_of_ble_eq_true rfl⟩ rfl (Nat.le_of_ble_eq_true rfl) ?_
  rintro r K' M' P' ⟨rfl, rfl, rfl, hM'⟩
  rw [hM']
  clear hM' M'
  refine ev_ishr dJ0_length_8abf5_9 ?_
  refine ev_ireturn dJ0_length_8abf5_10 ⟨_, rfl, rfl⟩ (rz ⟨?_, rfl⟩)
  have := shr0 ⟨s_len.getD i 0, by omega⟩
  rw [this]
theorem c_pcheck {x y : Int} (hx : 0 ≤ x) (hy : x < y) (hy2 : y ≤ 1000) (M : Mm) : Cm mJ3_checkIndex_8e157 [vI x, vI y, vX 14] M (fun r M' => r = some (vI x) ∧ M' = M) := by
  refine cm_of (by decide +kernel) (fun _ => trivial) (Nat.le_of_ble_eq_true rfl) ?_
  refine ev_iload_n dJ3_checkIndex_8e157_0 rfl ?_
  refine ev_if_lt (tgt := 9) dJ3_checkIndex_8e157_1 (by decide) (by omega) (fun h => ?_) (fun h => ?_)
  · omega
  refine ev_iload_n dJ3_checkIndex_8e157_4 rfl ?_
  refine ev_iload_n dJ3_checkIndex_8e157_5 rfl ?_
  refine ev_icmp_lt (tgt := 16) dJ3_checkIndex_8e157_6 (by decide) (by omega) (by omega) (fun h2 => ?_) (fun h2 => ?_)
  · refine ev_iload_n dJ3_checkIndex_8e157_16 rfl ?_
    exact ev_ireturn dJ3_checkIndex_8e157_17 ⟨_, rfl, rfl⟩ (rz ⟨rfl, rfl⟩)
  · omega
theorem c_scheck {x y : Int} (hx : 0 ≤ x) (hy : x < y) (hy2 : y ≤ 1000) (M : Mm) : Cm mJ0_checkIndex_df160 [vI x, vI y] M (fun r M' => r = none ∧ M' = M) := by
  refine cm_of (by decide +kernel) (fun _ => trivial) (Nat.le_of_ble_eq_true rfl) ?_
  refine ev_iload_n dJ0_checkIndex_df160_0 rfl ?_
  refine ev_iload_n dJ0_checkIndex_df160_1 rfl ?_
  refine ev_sfmt w_fmt dJ0_checkIndex_df160_2 ?_
  refine ev_calls (c_pcheck hx hy hy2 _) dJ0_checkIndex_df160_5 tJ3_checkIndex_8e157.1 kJ0_1059 tJ3_checkIndex_8e157.2.1 tJ3_checkIndex_8e157.2.2 ⟨⟨Nat.le_of_ble_eq_true rfl, Nat.le_of_ble_eq_true rfl⟩, Nat.le_of_ble_eq_true rfl, Nat.le_of_ble_eq_true rfl⟩ rfl (Nat.le_of_ble_eq_true rfl) ?_
  rintro r K' M' P' ⟨rfl, rfl, rfl, hM'⟩
  rw [hM']
  clear hM' M'
  refine ev_pop dJ0_checkIndex_df160_8 ?_
  exact ev_return dJ0_checkIndex_df160_9 rfl (rz ⟨rfl, rfl⟩)
theorem c_lcharAt {i : Nat} (hi : i < 6) {j : Int} (h0 : 0 ≤ j) (h1 : j < (s_len.getD i 0 : Nat)) (M : Mm) : Cm mJ1_charAt_3b067 [vX (8 + i), vI j] M (fun r M' => r = some (vI (sCh i j.toNat)) ∧ M' = M) := by
  have h5 := sl5 i hi
  have hc := sCh_rng i hi j.toNat (by omega)
  refine cm_of (by decide +kernel) (fun _ => trivial) (Nat.le_of_ble_eq_true rfl) ?_
  refine ev_iload_n dJ1_charAt_3b067_0 rfl ?_
  refine ev_aloadX_n dJ1_charAt_3b067_1 rfl ?_
  refine ev_stlen hi dJ1_charAt_3b067_2 ?_
  refine ev_calls (c_scheck h0 h1 (by omega) _) dJ1_charAt_3b067_3 tJ0_checkIndex_df160.1 kJ1_9 tJ0_checkIndex_df160.2.1 tJ0_checkIndex_df160.2.2 ⟨⟨Nat.le_of_ble_eq_true rfl, Nat.le_of_ble_eq_true rfl⟩, Nat.le_of_ble_eq_true rfl, Nat.le_of_ble_eq_true rfl⟩ rfl (Nat.le_of_ble_eq_true rfl) ?_
  rintro r K' M' P' ⟨rfl, rfl, rfl, hM'⟩
  rw [hM']
  clear hM' M'
  refine ev_aloadX_n dJ1_charAt_3b067_6 rfl ?_
  refine ev_iload_n dJ1_charAt_3b067_7 rfl ?_
  refine ev_sbald hi dJ1_charAt_3b067_8 h0 h1 h5.1 ?_
  refine ev_sipush dJ1_charAt_3b067_9 ?_
  refine ev_iand dJ1_charAt_3b067_12 ?_
  rw [and255' hc.1 hc.2]
  refine ev_i2c dJ1_charAt_3b067_13 (by omega) (by omega) ?_
  exact ev_ireturn dJ1_charAt_3b067_14 (okR_c rfl hc.1 hc.2) (rz ⟨rfl, rfl⟩)
theorem c_charAt {i : Nat} (hi : i < 6) {j : Int} (h0 : 0 ≤ j) (h1 : j < (s_len.getD i 0 : Nat)) (M : Mm) : Cm mJ0_charAt_5068e [vX (2 + i), vI j] M (fun r M' => r = some (vI (sCh i j.toNat)) ∧ M' = M) := by
  have h5 := sl5 i hi
  have hc := sCh_rng i hi j.toNat (by omega)
  refine cm_of (by decide +kernel) (fun _ => trivial) (Nat.le_of_ble_eq_true rfl) ?_
  refine ev_aloadX_n dJ0_charAt_5068e_0 rfl ?_
  refine ev_callX (i := i) hi (c_isLatin1 hi _) dJ0_charAt_5068e_1 tJ0_isLatin1_aae02.1 (wsg_in 341 (by decide +kernel) (by decide +kernel)) tJ0_isLatin1_aae02.2.1 tJ0_isLatin1_aae02.2.2.1 tJ0_isLatin1_aae02.2.2.2 ⟨⟨Nat.le_of_ble_eq_true rfl, Nat.le_of_ble_eq_true rfl⟩, Nat.le_of_ble_eq_true rfl, Nat.le_of_ble_eq_true rfl⟩ rfl (Nat.le_of_ble_eq_true rfl) ?_
  rintro r K' M' P' ⟨rfl, rfl, rfl, hM'⟩
  rw [hM']
  clear hM' M'
  refine ev_if_eq (tgt := 16) dJ0_charAt_5068e_4 (by decide) (by omega) (fun h => ?_) (fun h => ?_)
  · omega
  refine ev_aloadX_n dJ0_charAt_5068e_7 rfl ?_
  refine ev_sval hi w_val dJ0_charAt_5068e_8 ?_
  refine ev_iload_n dJ0_charAt_5068e_11 rfl ?_
  refine ev_calls (c_lcharAt hi h0 h1 _) dJ0_charAt_5068e_12 tJ1_charAt_3b067.1 kJ0_495 tJ1_charAt_3b067.2.1 tJ1_charAt_3b067.2.2 ⟨⟨Nat.le_of_ble_eq_true rfl, Nat.le_of_ble_eq_true rfl⟩, Nat.le_of_ble_eq_true rfl, Nat.le_of_ble_eq_true rfl⟩ rfl (Nat.le_of_ble_eq_true rfl) ?_
  rintro r K' M' P' ⟨rfl, rfl, rfl, hM'⟩
  rw [hM']
  clear hM' M'
  exact ev_ireturn dJ0_charAt_5068e_15 (okR_c rfl hc.1 hc.2) (rz ⟨rfl, rfl⟩)
theorem c_canEncode {x : Int} (h0 : 0 ≤ x) (h1 : x ≤ 127) (M : Mm) : Cm mJ1_canEncode_9a6ad [vI x] M (fun r M' => r = some (vI 1) ∧ M' = M) := by
  refine cm_of (by decide +kernel) (fun _ => trivial) (Nat.le_of_ble_eq_true rfl) ?_
  refine ev_iload_n dJ1_canEncode_9a6ad_0 rfl ?_
  refine ev_if_lt (tgt := 15) dJ1_canEncode_9a6ad_1 (by decide) (by omega) (fun h => ?_) (fun h => ?_)
  · omega
  refine ev_iload_n dJ1_canEncode_9a6ad_4 rfl ?_
  refine ev_sipush dJ1_canEncode_9a6ad_5 ?_
  refine ev_icmp_gt (tgt := 15) dJ1_canEncode_9a6ad_8 (by decide) (by omega) (by omega) (fun h2 => ?_) (fun h2 => ?_)
  · omega
  refine ev_iconst dJ1_canEncode_9a6ad_11 ?_
  refine ev_goto (tgt := 16) dJ1_canEncode_9a6ad_12 (by decide) ?_
  exact ev_ireturn dJ1_canEncode_9a6ad_16 (okR_z rfl (by first | exact Or.inl rfl | exact Or.inr rfl | assumption)) (rz ⟨rfl, rfl⟩)
/-- where x is among the letters from j on -/
def sFnd (i : Nat) (x : Int) : Nat → Nat → Int
  | _, 0 => -1
  | j, m + 1 => if sCh i j = x then j else sFnd i x (j + 1) m
theorem c_indexOfChar {i : Nat} (hi : i < 6) {x : Int} (hx : 0 ≤ x) (hx2 : x ≤ 127) (M : Mm) : Cm mJ1_indexOfChar_4cfef [vX (8 + i), vI x, vI 0, vI (s_len.getD i 0 : Nat)] M (fun r M' => r = some (vI (sFnd i x 0 (s_len.getD i 0))) ∧ M' = M) := by
  have h5 := sl5 i hi
  generalize hN : s_len.getD i 0 = N at *
  refine cm_of (by decide +kernel) (fun _ => trivial) (Nat.le_of_ble_eq_true rfl) ?_
  refine ev_iload_n dJ1_indexOfChar_4cfef_0 rfl ?_
  refine ev_i2b dJ1_indexOfChar_4cfef_1 (i2b' hx hx2) ?_
  refine ev_istore dJ1_indexOfChar_4cfef_2 (by decide) ?_
  refine ev_iload_n dJ1_indexOfChar_4cfef_4 rfl ?_
  refine ev_istore dJ1_indexOfChar_4cfef_5 (by decide) ?_
  have lp : sFnd i x 0 (N - 0) = sFnd i x 0 N → Ev mJ1_indexOfChar_4cfef 7 [some (vX (8 + i)), some (vI x), some (vI 0), some (vI (N : Nat)), some (vI x), some (vI ((0 : Nat) : Int))] [] KK M PP 0 0 (Rz mJ1_indexOfChar_4cfef (fun r M' => r = some (vI (sFnd i x 0 N)) ∧ M' = M)) := by
    refine up_loop (P := fun j => sFnd i x j (N - j) = sFnd i x 0 N → Ev mJ1_indexOfChar_4cfef 7 [some (vX (8 + i)), some (vI x), some (vI 0), some (vI (N : Nat)), some (vI x), some (vI (j : Int))] [] KK M PP 0 0 (Rz mJ1_indexOfChar_4cfef (fun r M' => r = some (vI (sFnd i x 0 N)) ∧ M' = M))) N ?_ ?_
    · intro hE
      refine ev_iload dJ1_indexOfChar_4cfef_7 rfl ?_
      refine ev_iload_n dJ1_indexOfChar_4cfef_9 rfl ?_
      refine ev_icmp_ge (tgt := 31) dJ1_indexOfChar_4cfef_10 (by decide) (by omega) (by omega) (fun h => ?_) (fun h => ?_)
      · refine ev_iconst dJ1_indexOfChar_4cfef_31 ?_
        refine ev_ireturn dJ1_indexOfChar_4cfef_32 ⟨_, rfl, rfl⟩ (rz ⟨?_, rfl⟩)
        rw [← hE, Nat.sub_self]
        rfl
      · omega
    · intro j hj hP hE
      have hc := sCh_rng i hi j (by omega)
      have e : N - j = (N - (j + 1)) + 1 := by omega
      rw [e] at hE
      simp only [sFnd] at hE
      refine ev_iload dJ1_indexOfChar_4cfef_7 rfl ?_
      refine ev_iload_n dJ1_indexOfChar_4cfef_9 rfl ?_
      refine ev_icmp_ge (tgt := 31) dJ1_indexOfChar_4cfef_10 (by decide) (by omega) (by omega) (fun h => ?_) (fun h => ?_)
      · omega
      refine ev_aloadX_n dJ1_indexOfChar_4cfef_13 rfl ?_
      refine ev_iload dJ1_indexOfChar_4cfef_14 rfl ?_
      refine ev_sbald hi dJ1_indexOfChar_4cfef_16 (by omega) (by rw [hN]; omega) (by omega) ?_
      rw [Int.toNat_natCast]
      refine ev_iload dJ1_indexOfChar_4cfef_17 rfl ?_
      refine ev_icmp_ne (tgt := 25) dJ1_indexOfChar_4cfef_19 (by decide) (by omega) (by omega) (fun hq => ?_) (fun hq => ?_)
      · rw [if_neg hq] at hE
        refine ev_iinc dJ1_indexOfChar_4cfef_25 rfl (by decide) ?_
        refine ev_goto (tgt := 7) dJ1_indexOfChar_4cfef_28 (by decide) ?_
        exact ev_to (hP hE) ⟨rfl, rfl, rfl, rfl, rfl, rfl, trivial⟩ rfl rfl rfl rfl
      · rw [if_pos hq] at hE
        refine ev_iload dJ1_indexOfChar_4cfef_22 rfl ?_
        exact ev_ireturn dJ1_indexOfChar_4cfef_24 ⟨_, rfl, rfl⟩ (rz ⟨by rw [← hE], rfl⟩)
  exact ev_to (lp rfl) ⟨rfl, rfl, rfl, rfl, rfl, rfl, trivial⟩ rfl rfl rfl rfl
theorem c_lindexOf {i : Nat} (hi : i < 6) {x : Int} (hx : 0 ≤ x) (hx2 : x ≤ 127) (M : Mm) : Cm mJ1_indexOf_4cfef [vX (8 + i), vI x, vI 0, vI (s_len.getD i 0 : Nat)] M (fun r M' => r = some (vI (sFnd i x 0 (s_len.getD i 0))) ∧ M' = M) := by
  have h5 := sl5 i hi
  refine cm_of (by decide +kernel) (fun _ => trivial) (Nat.le_of_ble_eq_true rfl) ?_
  refine ev_iload_n dJ1_indexOf_4cfef_0 rfl ?_
  refine ev_calls (c_canEncode hx hx2 _) dJ1_indexOf_4cfef_1 tJ1_canEncode_9a6ad.1 kJ1_88 tJ1_canEncode_9a6ad.2.1 tJ1_canEncode_9a6ad.2.2 ⟨⟨Nat.le_of_ble_eq_true rfl, Nat.le_of_ble_eq_true rfl⟩, Nat.le_of_ble_eq_true rfl, Nat.le_of_ble_eq_true rfl⟩ rfl (Nat.le_of_ble_eq_true rfl) ?_
  rintro r K' M' P' ⟨rfl, rfl, rfl, hM'⟩
  rw [hM']
  clear hM' M'
  refine ev_if_ne (tgt := 9) dJ1_indexOf_4cfef_4 (by decide) (by omega) (fun h => ?_) (fun h => ?_)
  · refine ev_iload_n dJ1_indexOf_4cfef_9 rfl ?_
    refine ev_iconst dJ1_indexOf_4cfef_10 ?_
    refine ev_calls (c_max (by omega) (by omega) _) dJ1_indexOf_4cfef_11 tJ9_max_7cf53.1 kJ1_92 tJ9_max_7cf53.2.1 tJ9_max_7cf53.2.2 ⟨⟨Nat.le_of_ble_eq_true rfl, Nat.le_of_ble_eq_true rfl⟩, Nat.le_of_ble_eq_true rfl, Nat.le_of_ble_eq_true rfl⟩ rfl (Nat.le_of_ble_eq_true rfl) ?_
    rintro r K' M' P' ⟨rfl, rfl, rfl, hM'⟩
    rw [hM']
    clear hM' M'
    refine ev_istore_n dJ1_indexOf_4cfef_14 (by decide) ?_
    refine ev_iload_n dJ1_indexOf_4cfef_15 rfl ?_
    refine ev_aloadX_n dJ1_indexOf_4cfef_16 rfl ?_
    refine ev_stlen hi dJ1_indexOf_4cfef_17 ?_
    refine ev_calls (c_min (by omega) (by omega) _) dJ1_indexOf_4cfef_18 tJ9_min_7cf53.1 kJ1_38 tJ9_min_7cf53.2.1 tJ9_min_7cf53.2.2 ⟨⟨Nat.le_of_ble_eq_true rfl, Nat.le_of_ble_eq_true rfl⟩, Nat.le_of_ble_eq_true rfl, Nat.le_of_ble_eq_true rfl⟩ rfl (Nat.le_of_ble_eq_true rfl) ?_
    rintro r K' M' P' ⟨rfl, rfl, rfl, hM'⟩
    rw [hM']
    clear hM' M'
    rw [show max (0 : Int) 0 = 0 by decide, show min ((s_len.getD i 0 : Nat) : Int) ((s_len.getD i 0 : Nat) : Int) = ((s_len.getD i 0 : Nat) : Int) by omega]
    refine ev_istore_n dJ1_indexOf_4cfef_21 (by decide) ?_
    refine ev_iload_n dJ1_indexOf_4cfef_22 rfl ?_
    refine ev_iload_n dJ1_indexOf_4cfef_23 rfl ?_
    refine ev_icmp_lt (tgt := 29) dJ1_indexOf_4cfef_24 (by decide) (by omega) (by omega) (fun h2 => ?_) (fun h2 => ?_)
    · refine ev_aloadX_n dJ1_indexOf_4cfef_29 rfl ?_
      refine ev_iload_n dJ1_indexOf_4cfef_30 rfl ?_
      refine ev_iload_n dJ1_indexOf_4cfef_31 rfl ?_
      refine ev_iload_n dJ1_indexOf_4cfef_32 rfl ?_
      refine ev_calls (c_indexOfChar hi hx hx2 _) dJ1_indexOf_4cfef_33 tJ1_indexOfChar_4cfef.1 kJ1_95 tJ1_indexOfChar_4cfef.2.1 tJ1_indexOfChar_4cfef.2.2 ⟨⟨Nat.le_of_ble_eq_true rfl, Nat.le_of_ble_eq_true rfl⟩, Nat.le_of_ble_eq_true rfl, Nat.le_of_ble_eq_true rfl⟩ rfl (Nat.le_of_ble_eq_true rfl) ?_
      rintro r K' M' P' ⟨rfl, rfl, rfl, hM'⟩
      rw [hM']
      clear hM' M'
      exact ev_ireturn dJ1_indexOf_4cfef_36 ⟨_, rfl, rfl⟩ (rz ⟨rfl, rfl⟩)
    · omega
  · omega
theorem c_indexOf2 {i : Nat} (hi : i < 6) {x : Int} (hx : 0 ≤ x) (hx2 : x ≤ 127) (M : Mm) : Cm mJ0_indexOf_7cf53 [vX (2 + i), vI x, vI 0] M (fun r M' => r = some (vI (sFnd i x 0 (s_len.getD i 0))) ∧ M' = M) := by
  refine cm_of (by decide +kernel) (fun _ => trivial) (Nat.le_of_ble_eq_true rfl) ?_
  refine ev_aloadX_n dJ0_indexOf_7cf53_0 rfl ?_
  refine ev_callX (i := i) hi (c_isLatin1 hi _) dJ0_indexOf_7cf53_1 tJ0_isLatin1_aae02.1 (wsg_in 341 (by decide +kernel) (by decide +kernel)) tJ0_isLatin1_aae02.2.1 tJ0_isLatin1_aae02.2.2.1 tJ0_isLatin1_aae02.2.2.2 ⟨⟨Nat.le_of_ble_eq_true rfl, Nat.le_of_ble_eq_true rfl⟩, Nat.le_of_ble_eq_true rfl, Nat.le_of_ble_eq_true rfl⟩ rfl (Nat.le_of_ble_eq_true rfl) ?_
  rintro r K' M' P' ⟨rfl, rfl, rfl, hM'⟩
  rw [hM']
  clear hM' M'
  refine ev_if_eq (tgt := 23) dJ0_indexOf_7cf53_4 (by decide) (by omega) (fun h => ?_) (fun h => ?_)
  · omega
  refine ev_aloadX_n dJ0_indexOf_7cf53_7 rfl ?_
  refine ev_sval hi w_val dJ0_indexOf_7cf53_8 ?_
  refine ev_iload_n dJ0_indexOf_7cf53_11 rfl ?_
  refine ev_iload_n dJ0_indexOf_7cf53_12 rfl ?_
  refine ev_aloadX_n dJ0_indexOf_7cf53_13 rfl ?_
  refine ev_callX (i := i) hi (c_length hi _) dJ0_indexOf_7cf53_14 tJ0_length_8abf5.1 (wsg_in 347 (by decide +kernel) (by decide +kernel)) tJ0_length_8abf5.2.1 tJ0_length_8abf5.2.2.1 tJ0_length_8abf5.2.2.2 ⟨⟨Nat.le_of_ble_eq_true rfl, Nat.le_of_ble_eq_true rfl⟩, Nat.le_of_ble_eq_true rfl, Nat.le_of_ble_eq_true rfl⟩ rfl (Nat.le_of_ble_eq_true rfl) ?_
  rintro r K' M' P' ⟨rfl, rfl, rfl, hM'⟩
  rw [hM']
  clear hM' M'
  refine ev_calls (c_lindexOf hi hx hx2 _) dJ0_indexOf_7cf53_17 tJ1_indexOf_4cfef.1 kJ0_637 tJ1_indexOf_4cfef.2.1 tJ1_indexOf_4cfef.2.2 ⟨⟨Nat.le_of_ble_eq_true rfl, Nat.le_of_ble_eq_true rfl⟩, Nat.le_of_ble_eq_true rfl, Nat.le_of_ble_eq_true rfl⟩ rfl (Nat.le_of_ble_eq_true rfl) ?_
  rintro r K' M' P' ⟨rfl, rfl, rfl, hM'⟩
  rw [hM']
  clear hM' M'
  refine ev_goto (tgt := 36) dJ0_indexOf_7cf53_20 (by decide) ?_
  exact ev_ireturn dJ0_indexOf_7cf53_36 ⟨_, rfl, rfl⟩ (rz ⟨rfl, rfl⟩)
theorem c_indexOf {i : Nat} (hi : i < 6) {x : Int} (hx : 0 ≤ x) (hx2 : x ≤ 127) (M : Mm) : Cm mJ0_indexOf_0f7a4 [vX (2 + i), vI x] M (fun r M' => r = some (vI (sFnd i x 0 (s_len.getD i 0))) ∧ M' = M) := by
  refine cm_of (by decide +kernel) (fun _ => trivial) (Nat.le_of_ble_eq_true rfl) ?_
  refine ev_aloadX_n dJ0_indexOf_0f7a4_0 rfl ?_
  refine ev_iload_n dJ0_indexOf_0f7a4_1 rfl ?_
  refine ev_iconst dJ0_indexOf_0f7a4_2 ?_
  refine ev_callX (i := i) hi (c_indexOf2 hi hx hx2 _) dJ0_indexOf_0f7a4_3 tJ0_indexOf_7cf53.1 (wsg_in 337 (by decide +kernel) (by decide +kernel)) tJ0_indexOf_7cf53.2.1 tJ0_indexOf_7cf53.2.2.1 tJ0_indexOf_7cf53.2.2.2 ⟨⟨Nat.le_of_ble_eq_true rfl, Nat.le_of_ble_eq_true rfl⟩, Nat.le_of_ble_eq_true rfl, Nat.le_of_ble_eq_true rfl⟩ rfl (Nat.le_of_ble_eq_true rfl) ?_
  rintro r K' M' P' ⟨rfl, rfl, rfl, hM'⟩
  rw [hM']
  clear hM' M'
  exact ev_ireturn dJ0_indexOf_0f7a4_6 ⟨_, rfl, rfl⟩ (rz ⟨rfl, rfl⟩)
