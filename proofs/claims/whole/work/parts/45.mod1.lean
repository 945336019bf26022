/-! ===== the reference: small ones ===== -/
theorem cmpL_c (x y : Int) : (x < y ∧ cmpL x y = -1) ∨ (x = y ∧ cmpL x y = 0) ∨ (y < x ∧ cmpL x y = 1) := by
  unfold cmpL
  split
  · left; omega
  · split
    · right; left; omega
    · right; right; omega
theorem k_in {x y z : Int} (hx : inL x) (hy : inL y) (hz : inL z) (M : Mm) : Cm mX9_in [vL x, vL y, vL z] M (fun r M' => yn (y ≤ x ∧ x ≤ z) r ∧ M' = M) := by
  have h1 := cmpL_c x y
  have h2 := cmpL_c x z
  refine cm_of (by decide +kernel) (fun _ => trivial) (Nat.le_of_ble_eq_true rfl) ?_
  refine ev_lload_n dX9_in_0 rfl ?_
  refine ev_lload_n dX9_in_1 rfl ?_
  refine ev_lcmp dX9_in_2 (by omega) (by omega) ?_
  refine ev_if_lt (tgt := 17) dX9_in_3 (by decide) (by omega) (fun hb3 => ?_) (fun hb3 => ?_)
  · refine ev_iconst dX9_in_17 ?_
    exact ev_ireturn dX9_in_18 (okR_z rfl (by first | exact Or.inl rfl | exact Or.inr rfl | assumption)) (rz (by first | exact ⟨yn_1 (by first | assumption | omega), rfl⟩ | exact ⟨yn_0 (by first | assumption | omega), rfl⟩))
  · refine ev_lload_n dX9_in_6 rfl ?_
    refine ev_lload dX9_in_7 rfl ?_
    refine ev_lcmp dX9_in_9 (by omega) (by omega) ?_
    refine ev_if_gt (tgt := 17) dX9_in_10 (by decide) (by omega) (fun hb10 => ?_) (fun hb10 => ?_)
    · refine ev_iconst dX9_in_17 ?_
      exact ev_ireturn dX9_in_18 (okR_z rfl (by first | exact Or.inl rfl | exact Or.inr rfl | assumption)) (rz (by first | exact ⟨yn_1 (by first | assumption | omega), rfl⟩ | exact ⟨yn_0 (by first | assumption | omega), rfl⟩))
    · refine ev_iconst dX9_in_13 ?_
      refine ev_goto (tgt := 18) dX9_in_14 (by decide) ?_
      exact ev_ireturn dX9_in_18 (okR_z rfl (by first | exact Or.inl rfl | exact Or.inr rfl | assumption)) (rz (by first | exact ⟨yn_1 (by first | assumption | omega), rfl⟩ | exact ⟨yn_0 (by first | assumption | omega), rfl⟩))
theorem cpS_0 (f h : Int → Int) : cpS 0 f h = h := by
  funext j
  unfold cpS
  rw [if_neg (by omega)]
theorem k_copy {c c2 N : Nat} (hK : KK[c]? = some (.inr (.inl N))) (hK2 : KK[c2]? = some (.inr (.inl N))) (hcc : c ≠ c2) (hN : N ≤ 100) (M : Mm) : Cm mX9_copy [vR c, vR c2] M (fun r M' => r = none ∧ M' = rwc M c2 (cpS N (M c) (M c2))) := by
  have hN2 : N ≤ 2147483647 := by omega
  refine cm_of (by decide +kernel) (fun _ => trivial) (Nat.le_of_ble_eq_true rfl) ?_
  refine ev_iconst dX9_copy_0 ?_
  refine ev_istore_n dX9_copy_1 (by decide) ?_
  refine ev_to (L' := [some (vR c), some (vR c2), some (vI ((0 : Nat) : Int))]) (S' := []) (M' := rwc M c2 (cpS (0 : Nat) (M c) (M c2))) (k' := 0) (n' := 0) ?_ (by repeat (first | exact trivial | refine ⟨rfl, ?_⟩)) (by show M = rwc M c2 (cpS 0 (M c) (M c2)); rw [cpS_0, rwc_self]) rfl rfl rfl
  refine up_loop (P := fun i => Ev mX9_copy 2 [some (vR c), some (vR c2), some (vI (i : Int))] [] KK (rwc M c2 (cpS i (M c) (M c2))) PP 0 0 _) N ?_ ?_
  · refine ev_iload_n dX9_copy_2 rfl ?_
    first | refine ev_aload_n dX9_copy_3 rfl ?_ | refine ev_aloadX_n dX9_copy_3 rfl ?_
    refine ev_alen dX9_copy_4 hK ?_
    refine ev_icmp_ge (tgt := 20) dX9_copy_5 (by decide) (by omega) (by omega) (fun h => ?_) (fun h => ?_)
    · exact ev_return dX9_copy_20 rfl (rz ⟨rfl, rfl⟩)
    · omega
  · intro i hi hP
    refine ev_iload_n dX9_copy_2 rfl ?_
    first | refine ev_aload_n dX9_copy_3 rfl ?_ | refine ev_aloadX_n dX9_copy_3 rfl ?_
    refine ev_alen dX9_copy_4 hK ?_
    refine ev_icmp_ge (tgt := 20) dX9_copy_5 (by decide) (by omega) (by omega) (fun h => ?_) (fun h => ?_)
    · omega
    · first | refine ev_aload_n dX9_copy_8 rfl ?_ | refine ev_aloadX_n dX9_copy_8 rfl ?_
      refine ev_iload_n dX9_copy_9 rfl ?_
      first | refine ev_aload_n dX9_copy_10 rfl ?_ | refine ev_aloadX_n dX9_copy_10 rfl ?_
      refine ev_iload_n dX9_copy_11 rfl ?_
      refine ev_iaload dX9_copy_12 hK (by omega) (by omega) hN2 ?_
      refine ev_iastore dX9_copy_13 hK2 (by omega) (by omega) hN2 ?_
      refine ev_iinc dX9_copy_14 rfl (by decide) ?_
      refine ev_goto (tgt := 2) dX9_copy_17 (by decide) ?_
      refine ev_to hP ⟨rfl, rfl, rfl, trivial⟩ ?_ rfl rfl rfl
      rw [upM_rw, rwc_rwc, rwc_at, rwc_ne hcc]
      congr 1
      funext j
      simp only [cpS, up1]
      by_cases hj : j = (i : Int)
      · subst hj
        rw [if_pos rfl, if_pos (by omega)]
      · rw [if_neg hj]
        split <;> split <;> first | rfl | omega
theorem k_letter {x : Int} (hx : inR x) (M : Mm) (h0 : 0 ≤ M 54 1) (h1 : M 54 1 ≤ 36) : Cm mX9_letter [vR 54, vI x] M (fun r M' => r = some (vI (if x < 1 ∨ 126 < x then -102 else if 36 ≤ M 54 1 then -104 else M 54 1 + 1)) ∧ M' = if x < 1 ∨ 126 < x ∨ 36 ≤ M 54 1 then M else upM (upM M 55 (M 54 1) x) 54 1 (M 54 1 + 1)) := by
  refine cm_of (by decide +kernel) (fun _ => trivial) (Nat.le_of_ble_eq_true rfl) ?_
  refine ev_iload_n dX9_letter_0 rfl ?_
  refine ev_i2l dX9_letter_1 (by omega) ?_
  refine ev_lconst (z := 1) dX9_letter_2 ?_
  refine ev_ldc2 (z := 126) dX9_letter_3 jX9_58 (by decide) ?_
  refine ev_calls (k_in (by omega) (by omega) (by omega) M) dX9_letter_6 tX9_in.1 kX9_60 tX9_in.2.1 tX9_in.2.2 ⟨⟨Nat.le_of_ble_eq_true rfl, Nat.le_of_ble_eq_true rfl⟩, Nat.le_of_ble_eq_true rfl, Nat.le_of_ble_eq_true rfl⟩ rfl (Nat.le_of_ble_eq_true rfl) ?_
  rintro r K' M' P' ⟨rfl, rfl, ⟨v6, rfl, hw6, hv6⟩, hM'⟩
  rw [hM']
  clear hM' M'
  refine ev_if_ne (tgt := 15) dX9_letter_9 (by decide) (by omega) (fun hb9 => ?_) (fun hb9 => ?_)
  · have g6 := hv6.mp (by omega)
    first | refine ev_aload_n dX9_letter_15 rfl ?_ | refine ev_aloadX_n dX9_letter_15 rfl ?_
    refine ev_gI 1 dX9_letter_16 fX9_64 rfl (by first | rfl | assumption) rfl ?_
    refine ev_bipush dX9_letter_19 ?_
    refine ev_icmp_ne (tgt := 27) dX9_letter_21 (by decide) (by omega) (by omega) (fun hb21 => ?_) (fun hb21 => ?_)
    · first | refine ev_aload_n dX9_letter_27 rfl ?_ | refine ev_aloadX_n dX9_letter_27 rfl ?_
      refine ev_getR dX9_letter_28 fX9_7 rfl (by first | rfl | assumption) (by first | rfl | assumption) ?_
      first | refine ev_aload_n dX9_letter_31 rfl ?_ | refine ev_aloadX_n dX9_letter_31 rfl ?_
      refine ev_gI 1 dX9_letter_32 fX9_64 rfl (by first | rfl | assumption) rfl ?_
      refine ev_iload_n dX9_letter_35 rfl ?_
      refine ev_iastore dX9_letter_36 (by first | rfl | assumption) (by omega) (by omega) (by decide) ?_
      have e54 : upM M 55 (M 54 1) x 54 1 = M 54 1 := upM_n (Or.inl (by decide))
      first | refine ev_aload_n dX9_letter_37 rfl ?_ | refine ev_aloadX_n dX9_letter_37 rfl ?_
      refine ev_dup dX9_letter_38 ?_
      refine ev_gI 1 dX9_letter_39 fX9_64 rfl (by first | rfl | assumption) rfl ?_
      refine ev_iconst dX9_letter_42 ?_
      rw [e54]
      refine ev_iadd dX9_letter_43 ?_
      refine ev_pI 1 dX9_letter_44 sX9_64 rfl (by first | rfl | assumption) rfl ?_
      first | refine ev_aload_n dX9_letter_47 rfl ?_ | refine ev_aloadX_n dX9_letter_47 rfl ?_
      refine ev_gI 1 dX9_letter_48 fX9_64 rfl (by first | rfl | assumption) rfl ?_
      rw [upM_s]
      exact ev_ireturn dX9_letter_51 ⟨_, rfl, rfl⟩ (rz ⟨by rw [if_neg (by omega), if_neg (by omega)], by rw [if_neg (by omega)]⟩)
    · refine ev_bipush dX9_letter_24 ?_
      exact ev_ireturn dX9_letter_26 ⟨_, rfl, rfl⟩ (rz ⟨by rw [if_neg (by omega), if_pos (by omega)], by rw [if_pos (by omega)]⟩)
  · have g6 := (not_congr hv6).mp (by omega)
    refine ev_bipush dX9_letter_12 ?_
    exact ev_ireturn dX9_letter_14 ⟨_, rfl, rfl⟩ (rz ⟨by rw [if_pos (by omega)], by rw [if_pos (by omega)]⟩)
theorem k_blank (M : Mm) : Cm mX9_blank [vR 54] M (fun r M' => r = some (vI (M 54 1)) ∧ M' = upM M 54 1 0) := by
  refine cm_of (by decide +kernel) (fun _ => trivial) (Nat.le_of_ble_eq_true rfl) ?_
  first | refine ev_aload_n dX9_blank_0 rfl ?_ | refine ev_aloadX_n dX9_blank_0 rfl ?_
  refine ev_gI 1 dX9_blank_1 fX9_64 rfl (by first | rfl | assumption) rfl ?_
  refine ev_istore_n dX9_blank_4 (by decide) ?_
  first | refine ev_aload_n dX9_blank_5 rfl ?_ | refine ev_aloadX_n dX9_blank_5 rfl ?_
  refine ev_iconst dX9_blank_6 ?_
  refine ev_pI 1 dX9_blank_7 sX9_64 rfl (by first | rfl | assumption) rfl ?_
  refine ev_iload_n dX9_blank_10 rfl ?_
  exact ev_ireturn dX9_blank_11 ⟨_, rfl, rfl⟩ (rz ⟨rfl, rfl⟩)
theorem k_forget (M : Mm) : Cm mX9_forget [vR 54] M (fun r M' => r = some (vI (M 54 20)) ∧ M' = upM M 54 20 0) := by
  refine cm_of (by decide +kernel) (fun _ => trivial) (Nat.le_of_ble_eq_true rfl) ?_
  first | refine ev_aload_n dX9_forget_0 rfl ?_ | refine ev_aloadX_n dX9_forget_0 rfl ?_
  refine ev_gI 20 dX9_forget_1 fX9_133 rfl (by first | rfl | assumption) rfl ?_
  refine ev_istore_n dX9_forget_4 (by decide) ?_
  first | refine ev_aload_n dX9_forget_5 rfl ?_ | refine ev_aloadX_n dX9_forget_5 rfl ?_
  refine ev_iconst dX9_forget_6 ?_
  refine ev_pI 20 dX9_forget_7 sX9_133 rfl (by first | rfl | assumption) rfl ?_
  refine ev_iload_n dX9_forget_10 rfl ?_
  exact ev_ireturn dX9_forget_11 ⟨_, rfl, rfl⟩ (rz ⟨rfl, rfl⟩)
theorem k_lacks (M : Mm) (h : inR (M 54 8)) : Cm mX9_lacks [vR 54] M (fun r M' => yn (M 54 8 = 0) r ∧ M' = M) := by
  refine cm_of (by decide +kernel) (fun _ => trivial) (Nat.le_of_ble_eq_true rfl) ?_
  first | refine ev_aload_n dX9_lacks_0 rfl ?_ | refine ev_aloadX_n dX9_lacks_0 rfl ?_
  refine ev_gI 8 dX9_lacks_1 fX9_126 rfl (by first | rfl | assumption) rfl ?_
  refine ev_if_ne (tgt := 11) dX9_lacks_4 (by decide) (by omega) (fun hb4 => ?_) (fun hb4 => ?_)
  · refine ev_iconst dX9_lacks_11 ?_
    exact ev_ireturn dX9_lacks_12 (okR_z rfl (by first | exact Or.inl rfl | exact Or.inr rfl | assumption)) (rz (by first | exact ⟨yn_1 (by first | assumption | omega), rfl⟩ | exact ⟨yn_0 (by first | assumption | omega), rfl⟩))
  · refine ev_iconst dX9_lacks_7 ?_
    refine ev_goto (tgt := 12) dX9_lacks_8 (by decide) ?_
    exact ev_ireturn dX9_lacks_12 (okR_z rfl (by first | exact Or.inl rfl | exact Or.inr rfl | assumption)) (rz (by first | exact ⟨yn_1 (by first | assumption | omega), rfl⟩ | exact ⟨yn_0 (by first | assumption | omega), rfl⟩))
theorem k_isStep {x : Int} (hx : inR x) (M : Mm) (h : 0 ≤ M 54 8) (h2 : M 54 8 ≤ 6) : Cm mX9_isStep [vR 54, vI x] M (fun r M' => yn (0 ≤ x ∧ x < M 54 8) r ∧ M' = M) := by
  refine cm_of (by decide +kernel) (fun _ => trivial) (Nat.le_of_ble_eq_true rfl) ?_
  refine ev_iload_n dX9_isStep_0 rfl ?_
  refine ev_i2l dX9_isStep_1 (by omega) ?_
  refine ev_lconst (z := 0) dX9_isStep_2 ?_
  first | refine ev_aload_n dX9_isStep_3 rfl ?_ | refine ev_aloadX_n dX9_isStep_3 rfl ?_
  refine ev_gI 8 dX9_isStep_4 fX9_126 rfl (by first | rfl | assumption) rfl ?_
  refine ev_iconst dX9_isStep_7 ?_
  refine ev_isub dX9_isStep_8 ?_
  refine ev_i2l dX9_isStep_9 (by omega) ?_
  refine ev_calls (k_in (by omega) (by omega) (by omega) M) dX9_isStep_10 tX9_in.1 kX9_60 tX9_in.2.1 tX9_in.2.2 ⟨⟨Nat.le_of_ble_eq_true rfl, Nat.le_of_ble_eq_true rfl⟩, Nat.le_of_ble_eq_true rfl, Nat.le_of_ble_eq_true rfl⟩ rfl (Nat.le_of_ble_eq_true rfl) ?_
  rintro r K' M' P' ⟨rfl, rfl, ⟨v10, rfl, hw10, hv10⟩, hM'⟩
  rw [hM']
  clear hM' M'
  exact ev_ireturn dX9_isStep_13 (okR_z rfl (by first | exact Or.inl rfl | exact Or.inr rfl | assumption)) (rz ⟨⟨v10, rfl, hw10, by rw [hv10]; omega⟩, rfl⟩)
theorem k_kind {x : Int} (hx : 0 ≤ x) (hx2 : x < 6) (M : Mm) : Cm mX9_kind [vR 54, vI x] M (fun r M' => r = some (vI (M 57 (4 * x))) ∧ M' = M) := by
  refine cm_of (by decide +kernel) (fun _ => trivial) (Nat.le_of_ble_eq_true rfl) ?_
  first | refine ev_aload_n dX9_kind_0 rfl ?_ | refine ev_aloadX_n dX9_kind_0 rfl ?_
  refine ev_getR dX9_kind_1 fX9_16 rfl (by first | rfl | assumption) (by first | rfl | assumption) ?_
  refine ev_iconst dX9_kind_4 ?_
  refine ev_iload_n dX9_kind_5 rfl ?_
  refine ev_imul dX9_kind_6 ?_
  refine ev_iaload dX9_kind_7 (by first | rfl | assumption) (by omega) (by omega) (by decide) ?_
  exact ev_ireturn dX9_kind_8 ⟨_, rfl, rfl⟩ (rz ⟨rfl, rfl⟩)
theorem k_one {x : Int} (hx : 0 ≤ x) (hx2 : x < 6) (M : Mm) : Cm mX9_one [vR 54, vI x] M (fun r M' => r = some (vI (M 57 (4 * x + 1))) ∧ M' = M) := by
  refine cm_of (by decide +kernel) (fun _ => trivial) (Nat.le_of_ble_eq_true rfl) ?_
  first | refine ev_aload_n dX9_one_0 rfl ?_ | refine ev_aloadX_n dX9_one_0 rfl ?_
  refine ev_getR dX9_one_1 fX9_16 rfl (by first | rfl | assumption) (by first | rfl | assumption) ?_
  refine ev_iconst dX9_one_4 ?_
  refine ev_iload_n dX9_one_5 rfl ?_
  refine ev_imul dX9_one_6 ?_
  refine ev_iconst dX9_one_7 ?_
  refine ev_iadd dX9_one_8 ?_
  refine ev_iaload dX9_one_9 (by first | rfl | assumption) (by omega) (by omega) (by decide) ?_
  exact ev_ireturn dX9_one_10 ⟨_, rfl, rfl⟩ (rz ⟨rfl, rfl⟩)
theorem k_other {x : Int} (hx : 0 ≤ x) (hx2 : x < 6) (M : Mm) : Cm mX9_other [vR 54, vI x] M (fun r M' => r = some (vI (M 57 (4 * x + 2))) ∧ M' = M) := by
  refine cm_of (by decide +kernel) (fun _ => trivial) (Nat.le_of_ble_eq_true rfl) ?_
  first | refine ev_aload_n dX9_other_0 rfl ?_ | refine ev_aloadX_n dX9_other_0 rfl ?_
  refine ev_getR dX9_other_1 fX9_16 rfl (by first | rfl | assumption) (by first | rfl | assumption) ?_
  refine ev_iconst dX9_other_4 ?_
  refine ev_iload_n dX9_other_5 rfl ?_
  refine ev_imul dX9_other_6 ?_
  refine ev_iconst dX9_other_7 ?_
  refine ev_iadd dX9_other_8 ?_
  refine ev_iaload dX9_other_9 (by first | rfl | assumption) (by omega) (by omega) (by decide) ?_
  exact ev_ireturn dX9_other_10 ⟨_, rfl, rfl⟩ (rz ⟨rfl, rfl⟩)
theorem k_number {x : Int} (hx : 0 ≤ x) (hx2 : x < 6) (M : Mm) : Cm mX9_number [vR 54, vI x] M (fun r M' => r = some (vI (M 57 (4 * x + 3) - 100)) ∧ M' = M) := by
  refine cm_of (by decide +kernel) (fun _ => trivial) (Nat.le_of_ble_eq_true rfl) ?_
  first | refine ev_aload_n dX9_number_0 rfl ?_ | refine ev_aloadX_n dX9_number_0 rfl ?_
  refine ev_getR dX9_number_1 fX9_16 rfl (by first | rfl | assumption) (by first | rfl | assumption) ?_
  refine ev_iconst dX9_number_4 ?_
  refine ev_iload_n dX9_number_5 rfl ?_
  refine ev_imul dX9_number_6 ?_
  refine ev_iconst dX9_number_7 ?_
  refine ev_iadd dX9_number_8 ?_
  refine ev_iaload dX9_number_9 (by first | rfl | assumption) (by omega) (by omega) (by decide) ?_
  refine ev_bipush dX9_number_10 ?_
  refine ev_isub dX9_number_12 ?_
  exact ev_ireturn dX9_number_13 ⟨_, rfl, rfl⟩ (rz ⟨rfl, rfl⟩)
theorem k_value {p x : Int} (hp : inP p) (hx : 0 ≤ x) (hx2 : x < 3) (M : Mm) : Cm mX9_value [vI p, vI x] M (fun r M' => r = some (vI (pv p (2 * x))) ∧ M' = M) := by
  have d1 : p.tdiv 289 = p / 289 := Int.tdiv_eq_ediv_of_nonneg hp.1
  have d2 : p.tdiv 17 = p / 17 := Int.tdiv_eq_ediv_of_nonneg hp.1
  have d3 : (p / 17).tmod 17 = p / 17 % 17 := tmod_nn (by omega)
  have d4 : p.tmod 17 = p % 17 := tmod_nn hp.1
  refine cm_of (by decide +kernel) (fun _ => trivial) (Nat.le_of_ble_eq_true rfl) ?_
  refine ev_iload_n dX9_value_0 rfl ?_
  refine ev_if_ne (tgt := 12) dX9_value_1 (by decide) (by omega) (fun hb1 => ?_) (fun hb1 => ?_)
  · refine ev_iload_n dX9_value_12 rfl ?_
    refine ev_iconst dX9_value_13 ?_
    refine ev_icmp_ne (tgt := 27) dX9_value_14 (by decide) (by omega) (by omega) (fun hb14 => ?_) (fun hb14 => ?_)
    · refine ev_iload_n dX9_value_27 rfl ?_
      refine ev_bipush dX9_value_28 ?_
      refine ev_irem dX9_value_30 (by omega) (by omega) (by omega) (by omega) ?_
      refine ev_bipush dX9_value_31 ?_
      refine ev_isub dX9_value_33 ?_
      exact ev_ireturn dX9_value_34 ⟨_, rfl, rfl⟩ (rz ⟨by first | (obtain rfl : x = 0 := (by omega); rw [d1]; exact congrArg (fun z => some (vI z)) (pv_0 p).symm) | (obtain rfl : x = 1 := (by omega); rw [d3]; exact congrArg (fun z => some (vI z)) (pv_2 p).symm) | (obtain rfl : x = 2 := (by omega); rw [d4]; exact congrArg (fun z => some (vI z)) (pv_4 p).symm), rfl⟩)
    · refine ev_iload_n dX9_value_17 rfl ?_
      refine ev_bipush dX9_value_18 ?_
      refine ev_idiv dX9_value_20 (by omega) (by omega) (by omega) (by omega) ?_
      rw [d2]
      refine ev_bipush dX9_value_21 ?_
      refine ev_irem dX9_value_23 (by omega) (by omega) (by omega) (by omega) ?_
      refine ev_goto (tgt := 31) dX9_value_24 (by decide) ?_
      refine ev_bipush dX9_value_31 ?_
      refine ev_isub dX9_value_33 ?_
      exact ev_ireturn dX9_value_34 ⟨_, rfl, rfl⟩ (rz ⟨by first | (obtain rfl : x = 0 := (by omega); rw [d1]; exact congrArg (fun z => some (vI z)) (pv_0 p).symm) | (obtain rfl : x = 1 := (by omega); rw [d3]; exact congrArg (fun z => some (vI z)) (pv_2 p).symm) | (obtain rfl : x = 2 := (by omega); rw [d4]; exact congrArg (fun z => some (vI z)) (pv_4 p).symm), rfl⟩)
  · refine ev_iload_n dX9_value_4 rfl ?_
    refine ev_sipush dX9_value_5 ?_
    refine ev_idiv dX9_value_8 (by omega) (by omega) (by omega) (by omega) ?_
    refine ev_goto (tgt := 31) dX9_value_9 (by decide) ?_
    refine ev_bipush dX9_value_31 ?_
    refine ev_isub dX9_value_33 ?_
    exact ev_ireturn dX9_value_34 ⟨_, rfl, rfl⟩ (rz ⟨by first | (obtain rfl : x = 0 := (by omega); rw [d1]; exact congrArg (fun z => some (vI z)) (pv_0 p).symm) | (obtain rfl : x = 1 := (by omega); rw [d3]; exact congrArg (fun z => some (vI z)) (pv_2 p).symm) | (obtain rfl : x = 2 := (by omega); rw [d4]; exact congrArg (fun z => some (vI z)) (pv_4 p).symm), rfl⟩)
/-- the signed values as the constructor laid them -/
def sgA (M : Mm) : Prop := ∀ p a, inP p → lit a → M 59 (6 * p + a) = pv p a
theorem k_signed {p a : Int} (hp : inP p) (ha : lit a) (M : Mm) (hs : sgA M) : Cm mX9_signed [vR 54, vI p, vI a] M (fun r M' => r = some (vI (pv p a)) ∧ M' = M) := by
  have e := hs p a hp ha
  refine cm_of (by decide +kernel) (fun _ => trivial) (Nat.le_of_ble_eq_true rfl) ?_
  first | refine ev_aload_n dX9_signed_0 rfl ?_ | refine ev_aloadX_n dX9_signed_0 rfl ?_
  refine ev_getR dX9_signed_1 fX9_23 rfl (by first | rfl | assumption) (by first | rfl | assumption) ?_
  refine ev_bipush dX9_signed_4 ?_
  refine ev_iload_n dX9_signed_6 rfl ?_
  refine ev_imul dX9_signed_7 ?_
  refine ev_iload_n dX9_signed_8 rfl ?_
  refine ev_iadd dX9_signed_9 ?_
  refine ev_iaload dX9_signed_10 (by first | rfl | assumption) (by omega) (by omega) (by decide) ?_
  rw [e]
  exact ev_ireturn dX9_signed_11 ⟨_, rfl, rfl⟩ (rz ⟨rfl, rfl⟩)
theorem k_pointOf {x y z : Int} (M : Mm) : Cm mX9_pointOf [vI x, vI y, vI z] M (fun r M' => r = some (vI (ptN x y z)) ∧ M' = M) := by
  refine cm_of (by decide +kernel) (fun _ => trivial) (Nat.le_of_ble_eq_true rfl) ?_
  refine ev_iload_n dX9_pointOf_0 rfl ?_
  refine ev_bipush dX9_pointOf_1 ?_
  refine ev_iadd dX9_pointOf_3 ?_
  refine ev_sipush dX9_pointOf_4 ?_
  refine ev_imul dX9_pointOf_7 ?_
  refine ev_iload_n dX9_pointOf_8 rfl ?_
  refine ev_bipush dX9_pointOf_9 ?_
  refine ev_iadd dX9_pointOf_11 ?_
  refine ev_bipush dX9_pointOf_12 ?_
  refine ev_imul dX9_pointOf_14 ?_
  refine ev_iadd dX9_pointOf_15 ?_
  refine ev_iload_n dX9_pointOf_16 rfl ?_
  refine ev_iadd dX9_pointOf_17 ?_
  refine ev_bipush dX9_pointOf_18 ?_
  refine ev_iadd dX9_pointOf_20 ?_
  exact ev_ireturn dX9_pointOf_21 ⟨_, rfl, rfl⟩ (rz ⟨rfl, rfl⟩)
theorem k_withValue {p x v : Int} (hp : inP p) (hx : 0 ≤ x) (hx2 : x < 3) (M : Mm) : Cm mX9_withValue [vI p, vI x, vI v] M (fun r M' => r = some (vI (wv p x v)) ∧ M' = M) := by
  unfold wv
  refine cm_of (by decide +kernel) (fun _ => trivial) (Nat.le_of_ble_eq_true rfl) ?_
  refine ev_iload_n dX9_withValue_0 rfl ?_
  refine ev_if_ne (tgt := 10) dX9_withValue_1 (by decide) (by omega) (fun hb1 => ?_) (fun hb1 => ?_)
  · refine ev_iload_n dX9_withValue_10 rfl ?_
    refine ev_iconst dX9_withValue_11 ?_
    refine ev_icmp_ne (tgt := 20) dX9_withValue_12 (by decide) (by omega) (by omega) (fun hb12 => ?_) (fun hb12 => ?_)
    · refine ev_iconst dX9_withValue_20 ?_
      refine ev_istore_n dX9_withValue_21 (by decide) ?_
      refine ev_iload_n dX9_withValue_22 rfl ?_
      refine ev_iload_n dX9_withValue_23 rfl ?_
      refine ev_iload_n dX9_withValue_24 rfl ?_
      refine ev_iload_n dX9_withValue_25 rfl ?_
      refine ev_calls (k_value hp hx hx2 M) dX9_withValue_26 tX9_value.1 kX9_54 tX9_value.2.1 tX9_value.2.2 ⟨⟨Nat.le_of_ble_eq_true rfl, Nat.le_of_ble_eq_true rfl⟩, Nat.le_of_ble_eq_true rfl, Nat.le_of_ble_eq_true rfl⟩ rfl (Nat.le_of_ble_eq_true rfl) ?_
      rintro r K' M' P' ⟨rfl, rfl, rfl, hM'⟩
      rw [hM']
      clear hM' M'
      refine ev_isub dX9_withValue_29 ?_
      refine ev_iload_n dX9_withValue_30 rfl ?_
      refine ev_imul dX9_withValue_31 ?_
      refine ev_iadd dX9_withValue_32 ?_
      exact ev_ireturn dX9_withValue_33 ⟨_, rfl, rfl⟩ (rz ⟨by first | rw [if_pos (by omega)] | rw [if_neg (by omega), if_pos (by omega)] | rw [if_neg (by omega), if_neg (by omega)], rfl⟩)
    · refine ev_bipush dX9_withValue_15 ?_
      refine ev_goto (tgt := 21) dX9_withValue_17 (by decide) ?_
      refine ev_istore_n dX9_withValue_21 (by decide) ?_
      refine ev_iload_n dX9_withValue_22 rfl ?_
      refine ev_iload_n dX9_withValue_23 rfl ?_
      refine ev_iload_n dX9_withValue_24 rfl ?_
      refine ev_iload_n dX9_withValue_25 rfl ?_
      refine ev_calls (k_value hp hx hx2 M) dX9_withValue_26 tX9_value.1 kX9_54 tX9_value.2.1 tX9_value.2.2 ⟨⟨Nat.le_of_ble_eq_true rfl, Nat.le_of_ble_eq_true rfl⟩, Nat.le_of_ble_eq_true rfl, Nat.le_of_ble_eq_true rfl⟩ rfl (Nat.le_of_ble_eq_true rfl) ?_
      rintro r K' M' P' ⟨rfl, rfl, rfl, hM'⟩
      rw [hM']
      clear hM' M'
      refine ev_isub dX9_withValue_29 ?_
      refine ev_iload_n dX9_withValue_30 rfl ?_
      refine ev_imul dX9_withValue_31 ?_
      refine ev_iadd dX9_withValue_32 ?_
      exact ev_ireturn dX9_withValue_33 ⟨_, rfl, rfl⟩ (rz ⟨by first | rw [if_pos (by omega)] | rw [if_neg (by omega), if_pos (by omega)] | rw [if_neg (by omega), if_neg (by omega)], rfl⟩)
  · refine ev_sipush dX9_withValue_4 ?_
    refine ev_goto (tgt := 21) dX9_withValue_7 (by decide) ?_
    refine ev_istore_n dX9_withValue_21 (by decide) ?_
    refine ev_iload_n dX9_withValue_22 rfl ?_
    refine ev_iload_n dX9_withValue_23 rfl ?_
    refine ev_iload_n dX9_withValue_24 rfl ?_
    refine ev_iload_n dX9_withValue_25 rfl ?_
    refine ev_calls (k_value hp hx hx2 M) dX9_withValue_26 tX9_value.1 kX9_54 tX9_value.2.1 tX9_value.2.2 ⟨⟨Nat.le_of_ble_eq_true rfl, Nat.le_of_ble_eq_true rfl⟩, Nat.le_of_ble_eq_true rfl, Nat.le_of_ble_eq_true rfl⟩ rfl (Nat.le_of_ble_eq_true rfl) ?_
    rintro r K' M' P' ⟨rfl, rfl, rfl, hM'⟩
    rw [hM']
    clear hM' M'
    refine ev_isub dX9_withValue_29 ?_
    refine ev_iload_n dX9_withValue_30 rfl ?_
    refine ev_imul dX9_withValue_31 ?_
    refine ev_iadd dX9_withValue_32 ?_
    exact ev_ireturn dX9_withValue_33 ⟨_, rfl, rfl⟩ (rz ⟨by first | rw [if_pos (by omega)] | rw [if_neg (by omega), if_pos (by omega)] | rw [if_neg (by omega), if_neg (by omega)], rfl⟩)
theorem k_pointsIn {k : Nat} (hk : k ≤ 9) (M : Mm) : Cm mX9_pointsIn [vR 54, vI (k : Int)] M (fun r M' => r = some (vI (sumS (fun j => M 58 (4913 * (k : Int) + j)) 4913)) ∧ M' = M) := by
  refine cm_of (by decide +kernel) (fun _ => trivial) (Nat.le_of_ble_eq_true rfl) ?_
  refine ev_iconst dX9_pointsIn_0 ?_
  refine ev_istore_n dX9_pointsIn_1 (by decide) ?_
  refine ev_iconst dX9_pointsIn_2 ?_
  refine ev_istore_n dX9_pointsIn_3 (by decide) ?_
  refine ev_to (L' := [some (vR 54), some (vI (k : Int)), some (vI (sumS (fun j => M 58 (4913 * (k : Int) + j)) (0 : Nat))), some (vI ((0 : Nat) : Int))]) (S' := []) (M' := M) (k' := 0) (n' := 0) ?_ (by repeat (first | exact trivial | refine ⟨rfl, ?_⟩)) rfl rfl rfl rfl
  refine up_loop (P := fun i => Ev mX9_pointsIn 4 [some (vR 54), some (vI (k : Int)), some (vI (sumS (fun j => M 58 (4913 * (k : Int) + j)) i)), some (vI (i : Int))] [] KK (M) PP 0 0 _) 4913 ?_ ?_
  · refine ev_iload_n dX9_pointsIn_4 rfl ?_
    refine ev_sipush dX9_pointsIn_5 ?_
    refine ev_icmp_ge (tgt := 32) dX9_pointsIn_8 (by decide) (by omega) (by omega) (fun hb8 => ?_) (fun hb8 => ?_)
    · refine ev_iload_n dX9_pointsIn_32 rfl ?_
      exact ev_ireturn dX9_pointsIn_33 ⟨_, rfl, rfl⟩ (rz ⟨rfl, rfl⟩)
    · omega
  · intro i hi hP
    refine ev_iload_n dX9_pointsIn_4 rfl ?_
    refine ev_sipush dX9_pointsIn_5 ?_
    refine ev_icmp_ge (tgt := 32) dX9_pointsIn_8 (by decide) (by omega) (by omega) (fun hb8 => ?_) (fun hb8 => ?_)
    · omega
    · refine ev_iload_n dX9_pointsIn_11 rfl ?_
      first | refine ev_aload_n dX9_pointsIn_12 rfl ?_ | refine ev_aloadX_n dX9_pointsIn_12 rfl ?_
      refine ev_getR dX9_pointsIn_13 fX9_20 rfl (by first | rfl | assumption) (by first | rfl | assumption) ?_
      refine ev_sipush dX9_pointsIn_16 ?_
      refine ev_iload_n dX9_pointsIn_19 rfl ?_
      refine ev_imul dX9_pointsIn_20 ?_
      refine ev_iload_n dX9_pointsIn_21 rfl ?_
      refine ev_iadd dX9_pointsIn_22 ?_
      refine ev_iaload dX9_pointsIn_23 (by first | rfl | assumption) (by omega) (by omega) (by decide) ?_
      refine ev_iadd dX9_pointsIn_24 ?_
      refine ev_istore_n dX9_pointsIn_25 (by decide) ?_
      refine ev_iinc dX9_pointsIn_26 rfl (by decide) ?_
      refine ev_goto (tgt := 4) dX9_pointsIn_29 (by decide) ?_
      exact ev_to hP (by repeat (first | exact trivial | refine ⟨rfl, ?_⟩)) rfl rfl rfl rfl
theorem k_lay {t p : Int} (h0 : 0 ≤ t) (h1 : t ≤ 9) (hp : inP p) (M : Mm) : Cm mX9_lay [vR 54, vI t, vI p] M (fun r M' => r = none ∧ M' = upM M 58 (4913 * t + p) 1) := by
  refine cm_of (by decide +kernel) (fun _ => trivial) (Nat.le_of_ble_eq_true rfl) ?_
  first | refine ev_aload_n dX9_lay_0 rfl ?_ | refine ev_aloadX_n dX9_lay_0 rfl ?_
  refine ev_getR dX9_lay_1 fX9_20 rfl (by first | rfl | assumption) (by first | rfl | assumption) ?_
  refine ev_sipush dX9_lay_4 ?_
  refine ev_iload_n dX9_lay_7 rfl ?_
  refine ev_imul dX9_lay_8 ?_
  refine ev_iload_n dX9_lay_9 rfl ?_
  refine ev_iadd dX9_lay_10 ?_
  refine ev_iconst dX9_lay_11 ?_
  refine ev_iastore dX9_lay_12 (by first | rfl | assumption) (by omega) (by omega) (by decide) ?_
  exact ev_return dX9_lay_13 rfl (rz ⟨rfl, rfl⟩)
theorem k_kindBy {z : Int} (hz : inR z) (M : Mm) : Cm mX9_kindBy [vI z] M (fun r M' => r = some (vI (if z = 116 then 0 else if z = 115 then 1 else if z = 102 then 2 else if z = 97 then 3 else if z = 119 then 4 else -1)) ∧ M' = M) := by
  refine cm_of (by decide +kernel) (fun _ => trivial) (Nat.le_of_ble_eq_true rfl) ?_
  refine ev_iload_n dX9_kindBy_0 rfl ?_
  rcases (by omega : z = 97 ∨ z = 102 ∨ z = 115 ∨ z = 116 ∨ z = 119 ∨ (z ≠ 97 ∧ z ≠ 102 ∧ z ≠ 115 ∧ z ≠ 116 ∧ z ≠ 119)) with h1 | h1 | h1 | h1 | h1 | h1
  · refine ev_lookup (off := 57) (tgt := 58) dX9_kindBy_1 (by decide) (by omega) (by rw [h1]; decide) (by decide) ?_
    refine ev_iconst dX9_kindBy_58 ?_
    exact ev_ireturn dX9_kindBy_59 ⟨_, rfl, rfl⟩ (rz ⟨by (repeat' split) <;> first | rfl | omega, rfl⟩)
  · refine ev_lookup (off := 55) (tgt := 56) dX9_kindBy_1 (by decide) (by omega) (by rw [h1]; decide) (by decide) ?_
    refine ev_iconst dX9_kindBy_56 ?_
    exact ev_ireturn dX9_kindBy_57 ⟨_, rfl, rfl⟩ (rz ⟨by (repeat' split) <;> first | rfl | omega, rfl⟩)
  · refine ev_lookup (off := 53) (tgt := 54) dX9_kindBy_1 (by decide) (by omega) (by rw [h1]; decide) (by decide) ?_
    refine ev_iconst dX9_kindBy_54 ?_
    exact ev_ireturn dX9_kindBy_55 ⟨_, rfl, rfl⟩ (rz ⟨by (repeat' split) <;> first | rfl | omega, rfl⟩)
  · refine ev_lookup (off := 51) (tgt := 52) dX9_kindBy_1 (by decide) (by omega) (by rw [h1]; decide) (by decide) ?_
    refine ev_iconst dX9_kindBy_52 ?_
    exact ev_ireturn dX9_kindBy_53 ⟨_, rfl, rfl⟩ (rz ⟨by (repeat' split) <;> first | rfl | omega, rfl⟩)
  · refine ev_lookup (off := 59) (tgt := 60) dX9_kindBy_1 (by decide) (by omega) (by rw [h1]; decide) (by decide) ?_
    refine ev_iconst dX9_kindBy_60 ?_
    exact ev_ireturn dX9_kindBy_61 ⟨_, rfl, rfl⟩ (rz ⟨by (repeat' split) <;> first | rfl | omega, rfl⟩)
  · refine ev_lookup (off := 61) (tgt := 62) dX9_kindBy_1 (by decide) (by omega) (Op.lookupswitch.offset_none (by simp; omega)) (by decide) ?_
    refine ev_iconst dX9_kindBy_62 ?_
    exact ev_ireturn dX9_kindBy_63 ⟨_, rfl, rfl⟩ (rz ⟨by (repeat' split) <;> first | rfl | omega, rfl⟩)
def lgO (k : Int) : Int := if k = 0 ∨ k = 1 then 5 else if k = 3 then 4 else 2
theorem k_longOf {k : Int} (hk : inR k) (M : Mm) : Cm mX9_longOf [vI k] M (fun r M' => r = some (vI (lgO k)) ∧ M' = M) := by
  unfold lgO
  refine cm_of (by decide +kernel) (fun _ => trivial) (Nat.le_of_ble_eq_true rfl) ?_
  refine ev_iload_n dX9_longOf_0 rfl ?_
  refine ev_if_eq (tgt := 9) dX9_longOf_1 (by decide) (by omega) (fun hb1 => ?_) (fun hb1 => ?_)
  · refine ev_iconst dX9_longOf_9 ?_
    refine ev_goto (tgt := 23) dX9_longOf_10 (by decide) ?_
    exact ev_ireturn dX9_longOf_23 ⟨_, rfl, rfl⟩ (rz ⟨by (repeat' split) <;> first | rfl | omega, rfl⟩)
  · refine ev_iload_n dX9_longOf_4 rfl ?_
    refine ev_iconst dX9_longOf_5 ?_
    refine ev_icmp_ne (tgt := 13) dX9_longOf_6 (by decide) (by omega) (by omega) (fun hb6 => ?_) (fun hb6 => ?_)
    · refine ev_iload_n dX9_longOf_13 rfl ?_
      refine ev_iconst dX9_longOf_14 ?_
      refine ev_icmp_ne (tgt := 22) dX9_longOf_15 (by decide) (by omega) (by omega) (fun hb15 => ?_) (fun hb15 => ?_)
      · refine ev_iconst dX9_longOf_22 ?_
        exact ev_ireturn dX9_longOf_23 ⟨_, rfl, rfl⟩ (rz ⟨by (repeat' split) <;> first | rfl | omega, rfl⟩)
      · refine ev_iconst dX9_longOf_18 ?_
        refine ev_goto (tgt := 23) dX9_longOf_19 (by decide) ?_
        exact ev_ireturn dX9_longOf_23 ⟨_, rfl, rfl⟩ (rz ⟨by (repeat' split) <;> first | rfl | omega, rfl⟩)
    · refine ev_iconst dX9_longOf_9 ?_
      refine ev_goto (tgt := 23) dX9_longOf_10 (by decide) ?_
      exact ev_ireturn dX9_longOf_23 ⟨_, rfl, rfl⟩ (rz ⟨by (repeat' split) <;> first | rfl | omega, rfl⟩)
theorem k_isOf {x y : Int} (hx : inR x) (hy : inR y) (M : Mm) : Cm mX9_isOf [vI x, vI y] M (fun r M' => yn (y = 0 ∨ x = y ∨ (y = 1 ∧ x = 3)) r ∧ M' = M) := by
  refine cm_of (by decide +kernel) (fun _ => trivial) (Nat.le_of_ble_eq_true rfl) ?_
  refine ev_iload_n dX9_isOf_0 rfl ?_
  refine ev_if_eq (tgt := 19) dX9_isOf_1 (by decide) (by omega) (fun hb1 => ?_) (fun hb1 => ?_)
  · refine ev_iconst dX9_isOf_19 ?_
    refine ev_goto (tgt := 24) dX9_isOf_20 (by decide) ?_
    exact ev_ireturn dX9_isOf_24 (okR_z rfl (by first | exact Or.inl rfl | exact Or.inr rfl | assumption)) (rz (by first | exact ⟨yn_1 (by first | assumption | omega), rfl⟩ | exact ⟨yn_0 (by first | assumption | omega), rfl⟩))
  · refine ev_iload_n dX9_isOf_4 rfl ?_
    refine ev_iload_n dX9_isOf_5 rfl ?_
    refine ev_icmp_eq (tgt := 19) dX9_isOf_6 (by decide) (by omega) (by omega) (fun hb6 => ?_) (fun hb6 => ?_)
    · refine ev_iconst dX9_isOf_19 ?_
      refine ev_goto (tgt := 24) dX9_isOf_20 (by decide) ?_
      exact ev_ireturn dX9_isOf_24 (okR_z rfl (by first | exact Or.inl rfl | exact Or.inr rfl | assumption)) (rz (by first | exact ⟨yn_1 (by first | assumption | omega), rfl⟩ | exact ⟨yn_0 (by first | assumption | omega), rfl⟩))
    · refine ev_iload_n dX9_isOf_9 rfl ?_
      refine ev_iconst dX9_isOf_10 ?_
      refine ev_icmp_ne (tgt := 23) dX9_isOf_11 (by decide) (by omega) (by omega) (fun hb11 => ?_) (fun hb11 => ?_)
      · refine ev_iconst dX9_isOf_23 ?_
        exact ev_ireturn dX9_isOf_24 (okR_z rfl (by first | exact Or.inl rfl | exact Or.inr rfl | assumption)) (rz (by first | exact ⟨yn_1 (by first | assumption | omega), rfl⟩ | exact ⟨yn_0 (by first | assumption | omega), rfl⟩))
      · refine ev_iload_n dX9_isOf_14 rfl ?_
        refine ev_iconst dX9_isOf_15 ?_
        refine ev_icmp_ne (tgt := 23) dX9_isOf_16 (by decide) (by omega) (by omega) (fun hb16 => ?_) (fun hb16 => ?_)
        · refine ev_iconst dX9_isOf_23 ?_
          exact ev_ireturn dX9_isOf_24 (okR_z rfl (by first | exact Or.inl rfl | exact Or.inr rfl | assumption)) (rz (by first | exact ⟨yn_1 (by first | assumption | omega), rfl⟩ | exact ⟨yn_0 (by first | assumption | omega), rfl⟩))
        · refine ev_iconst dX9_isOf_19 ?_
          refine ev_goto (tgt := 24) dX9_isOf_20 (by decide) ?_
          exact ev_ireturn dX9_isOf_24 (okR_z rfl (by first | exact Or.inl rfl | exact Or.inr rfl | assumption)) (rz (by first | exact ⟨yn_1 (by first | assumption | omega), rfl⟩ | exact ⟨yn_0 (by first | assumption | omega), rfl⟩))
theorem k_as {n : Nat} {x y : Int} (hx : inR x) (hy : inR y) (M : Mm) (hs : M 54 8 = n) (hn : n ≤ 6) (hR : ∀ j, 0 ≤ j → j < (n : Int) → inR (M 57 (4 * j))) : Cm mX9_as [vR 54, vI x, vI y] M (fun r M' => r = some (vI (if x < 0 ∨ (n : Int) ≤ x then -101 else if y < 0 ∨ 5 ≤ y then -102 else if y = 0 ∨ M 57 (4 * x) = y ∨ (y = 1 ∧ M 57 (4 * x) = 3) then x else -1)) ∧ M' = M) := by
  refine cm_of (by decide +kernel) (fun _ => trivial) (Nat.le_of_ble_eq_true rfl) ?_
  first | refine ev_aload_n dX9_as_0 rfl ?_ | refine ev_aloadX_n dX9_as_0 rfl ?_
  refine ev_iload_n dX9_as_1 rfl ?_
  refine ev_callv (ci := 9) (k_isStep hx M (by omega) (by omega)) dX9_as_2 tX9_isStep.1 kX9_272 tX9_isStep.2.1 tX9_isStep.2.2.1 rfl (by first | rfl | assumption) tX9_isStep.2.2.2 ⟨⟨Nat.le_of_ble_eq_true rfl, Nat.le_of_ble_eq_true rfl⟩, Nat.le_of_ble_eq_true rfl, Nat.le_of_ble_eq_true rfl⟩ rfl (Nat.le_of_ble_eq_true rfl) ?_
  rintro r K' M' P' ⟨rfl, rfl, ⟨v2, rfl, hw2, hv2⟩, hM'⟩
  rw [hM']
  clear hM' M'
  refine ev_if_ne (tgt := 11) dX9_as_5 (by decide) (by omega) (fun hb5 => ?_) (fun hb5 => ?_)
  · have g2 := hv2.mp (by omega)
    refine ev_iload_n dX9_as_11 rfl ?_
    refine ev_i2l dX9_as_12 (by omega) ?_
    refine ev_lconst (z := 0) dX9_as_13 ?_
    refine ev_ldc2 (z := 4) dX9_as_14 jX9_278 (by decide) ?_
    refine ev_calls (k_in (by omega) (by omega) (by omega) M) dX9_as_17 tX9_in.1 kX9_60 tX9_in.2.1 tX9_in.2.2 ⟨⟨Nat.le_of_ble_eq_true rfl, Nat.le_of_ble_eq_true rfl⟩, Nat.le_of_ble_eq_true rfl, Nat.le_of_ble_eq_true rfl⟩ rfl (Nat.le_of_ble_eq_true rfl) ?_
    rintro r K' M' P' ⟨rfl, rfl, ⟨v17, rfl, hw17, hv17⟩, hM'⟩
    rw [hM']
    clear hM' M'
    refine ev_if_ne (tgt := 26) dX9_as_20 (by decide) (by omega) (fun hb20 => ?_) (fun hb20 => ?_)
    · have g17 := hv17.mp (by omega)
      first | refine ev_aload_n dX9_as_26 rfl ?_ | refine ev_aloadX_n dX9_as_26 rfl ?_
      refine ev_iload_n dX9_as_27 rfl ?_
      refine ev_callv (ci := 9) (k_kind (by omega) (by omega) M) dX9_as_28 tX9_kind.1 kX9_146 tX9_kind.2.1 tX9_kind.2.2.1 rfl (by first | rfl | assumption) tX9_kind.2.2.2 ⟨⟨Nat.le_of_ble_eq_true rfl, Nat.le_of_ble_eq_true rfl⟩, Nat.le_of_ble_eq_true rfl, Nat.le_of_ble_eq_true rfl⟩ rfl (Nat.le_of_ble_eq_true rfl) ?_
      rintro r K' M' P' ⟨rfl, rfl, rfl, hM'⟩
      rw [hM']
      clear hM' M'
      refine ev_iload_n dX9_as_31 rfl ?_
      refine ev_calls (k_isOf (hR x (by omega) (by omega)) hy M) dX9_as_32 tX9_isOf.1 kX9_280 tX9_isOf.2.1 tX9_isOf.2.2 ⟨⟨Nat.le_of_ble_eq_true rfl, Nat.le_of_ble_eq_true rfl⟩, Nat.le_of_ble_eq_true rfl, Nat.le_of_ble_eq_true rfl⟩ rfl (Nat.le_of_ble_eq_true rfl) ?_
      rintro r K' M' P' ⟨rfl, rfl, ⟨v32, rfl, hw32, hv32⟩, hM'⟩
      rw [hM']
      clear hM' M'
      refine ev_if_eq (tgt := 42) dX9_as_35 (by decide) (by omega) (fun hb35 => ?_) (fun hb35 => ?_)
      · have g32 := (not_congr hv32).mp (by omega)
        refine ev_iconst dX9_as_42 ?_
        exact ev_ireturn dX9_as_43 ⟨_, rfl, rfl⟩ (rz ⟨by (repeat' split) <;> first | rfl | omega, rfl⟩)
      · have g32 := hv32.mp (by omega)
        refine ev_iload_n dX9_as_38 rfl ?_
        refine ev_goto (tgt := 43) dX9_as_39 (by decide) ?_
        exact ev_ireturn dX9_as_43 ⟨_, rfl, rfl⟩ (rz ⟨by (repeat' split) <;> first | rfl | omega, rfl⟩)
    · have g17 := (not_congr hv17).mp (by omega)
      refine ev_bipush dX9_as_23 ?_
      exact ev_ireturn dX9_as_25 ⟨_, rfl, rfl⟩ (rz ⟨by (repeat' split) <;> first | rfl | omega, rfl⟩)
  · have g2 := (not_congr hv2).mp (by omega)
    refine ev_bipush dX9_as_8 ?_
    exact ev_ireturn dX9_as_10 ⟨_, rfl, rfl⟩ (rz ⟨by (repeat' split) <;> first | rfl | omega, rfl⟩)
