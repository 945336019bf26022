/-! ===== the reference: reading, letter by letter ===== -/
def kbV (z : Int) : Int := if z = 116 then 0 else if z = 115 then 1 else if z = 102 then 2 else if z = 97 then 3 else if z = 119 then 4 else -1
theorem kb_all : ∀ j : Fin 127, kbV ((j.val : Nat) : Int) = kdOf ((j.val : Nat) : Int) := by decide
theorem kb_e {z : Int} (h : 0 ≤ z) (h2 : z ≤ 126) : kbV z = kdOf z := by
  have := kb_all ⟨z.toNat, by omega⟩
  simp only [Int.toNat_of_nonneg h] at this
  exact this
def bgnX (X : Mm) (kd : Int) : Mm := upM (upM (upM (upM (upM (upM X 54 4 kd) 54 3 1) 56 (4 * X 54 2) kd) 56 (4 * X 54 2 + 1) (-1)) 56 (4 * X 54 2 + 2) (-1)) 56 (4 * X 54 2 + 3) (-1)
theorem k_isBegun {z : Int} (hz : 1 ≤ z) (hz2 : z ≤ 126) (X : Mm) (h2 : 0 ≤ X 54 2) (h3 : X 54 2 ≤ 5) (h5 : inR (X 54 5)) : Cm mX9_isBegun [vR 54, vI z] X (fun r X' => yn (kdOf z ≠ -1 ∧ (kdOf z ≠ 4 ∨ X 54 5 < X 54 2)) r ∧ X' = bgnX X (kdOf z)) := by
  have hr := kdOf_rng z
  have e := kb_e (z := z) (by omega) (by omega)
  unfold kbV at e
  generalize kdOf z = kd at *
  have u54 : ∀ (Y : Mm) (i w j : Int), upM Y 56 i w 54 j = Y 54 j := fun Y i w j => upM_n (Or.inl (by decide))
  have a2 : upM (upM X 54 4 kd) 54 3 1 54 2 = X 54 2 := by simp [upM]
  have a4 : upM (upM X 54 4 kd) 54 3 1 54 4 = kd := by simp [upM]
  have a5 : upM (upM X 54 4 kd) 54 3 1 54 5 = X 54 5 := by simp [upM]
  refine cm_of (by decide +kernel) (fun _ => trivial) (Nat.le_of_ble_eq_true rfl) ?_
  first | refine ev_aload_n dX9_isBegun_0 rfl ?_ | refine ev_aloadX_n dX9_isBegun_0 rfl ?_
  refine ev_iload_n dX9_isBegun_1 rfl ?_
  refine ev_calls (k_kindBy (by omega) X) dX9_isBegun_2 tX9_kindBy.1 kX9_67 tX9_kindBy.2.1 tX9_kindBy.2.2 ⟨⟨Nat.le_of_ble_eq_true rfl, Nat.le_of_ble_eq_true rfl⟩, Nat.le_of_ble_eq_true rfl, Nat.le_of_ble_eq_true rfl⟩ rfl (Nat.le_of_ble_eq_true rfl) ?_
  rintro r K' M' P' ⟨rfl, rfl, rfl, hM'⟩
  rw [hM']
  clear hM' M'
  rw [e]
  refine ev_pI 4 dX9_isBegun_5 sX9_71 rfl (by first | rfl | assumption) rfl ?_
  first | refine ev_aload_n dX9_isBegun_8 rfl ?_ | refine ev_aloadX_n dX9_isBegun_8 rfl ?_
  refine ev_iconst dX9_isBegun_9 ?_
  refine ev_pI 3 dX9_isBegun_10 sX9_74 rfl (by first | rfl | assumption) rfl ?_
  refine ev_iconst dX9_isBegun_13 ?_
  first | refine ev_aload_n dX9_isBegun_14 rfl ?_ | refine ev_aloadX_n dX9_isBegun_14 rfl ?_
  refine ev_gI 2 dX9_isBegun_15 fX9_77 rfl (by first | rfl | assumption) rfl ?_
  rw [a2]
  refine ev_imul dX9_isBegun_18 ?_
  refine ev_istore_n dX9_isBegun_19 (by decide) ?_
  first | refine ev_aload_n dX9_isBegun_20 rfl ?_ | refine ev_aloadX_n dX9_isBegun_20 rfl ?_
  refine ev_getR dX9_isBegun_21 fX9_13 rfl (by first | rfl | assumption) (by first | rfl | assumption) ?_
  refine ev_iload_n dX9_isBegun_24 rfl ?_
  first | refine ev_aload_n dX9_isBegun_25 rfl ?_ | refine ev_aloadX_n dX9_isBegun_25 rfl ?_
  refine ev_gI 4 dX9_isBegun_26 fX9_71 rfl (by first | rfl | assumption) rfl ?_
  rw [a4]
  refine ev_iastore dX9_isBegun_29 (by first | rfl | assumption) (by omega) (by omega) (by decide) ?_
  first | refine ev_aload_n dX9_isBegun_30 rfl ?_ | refine ev_aloadX_n dX9_isBegun_30 rfl ?_
  refine ev_getR dX9_isBegun_31 fX9_13 rfl (by first | rfl | assumption) (by first | rfl | assumption) ?_
  refine ev_iload_n dX9_isBegun_34 rfl ?_
  refine ev_iconst dX9_isBegun_35 ?_
  refine ev_iadd dX9_isBegun_36 ?_
  refine ev_iconst dX9_isBegun_37 ?_
  refine ev_iastore dX9_isBegun_38 (by first | rfl | assumption) (by omega) (by omega) (by decide) ?_
  first | refine ev_aload_n dX9_isBegun_39 rfl ?_ | refine ev_aloadX_n dX9_isBegun_39 rfl ?_
  refine ev_getR dX9_isBegun_40 fX9_13 rfl (by first | rfl | assumption) (by first | rfl | assumption) ?_
  refine ev_iload_n dX9_isBegun_43 rfl ?_
  refine ev_iconst dX9_isBegun_44 ?_
  refine ev_iadd dX9_isBegun_45 ?_
  refine ev_iconst dX9_isBegun_46 ?_
  refine ev_iastore dX9_isBegun_47 (by first | rfl | assumption) (by omega) (by omega) (by decide) ?_
  first | refine ev_aload_n dX9_isBegun_48 rfl ?_ | refine ev_aloadX_n dX9_isBegun_48 rfl ?_
  refine ev_getR dX9_isBegun_49 fX9_13 rfl (by first | rfl | assumption) (by first | rfl | assumption) ?_
  refine ev_iload_n dX9_isBegun_52 rfl ?_
  refine ev_iconst dX9_isBegun_53 ?_
  refine ev_iadd dX9_isBegun_54 ?_
  refine ev_iconst dX9_isBegun_55 ?_
  refine ev_iastore dX9_isBegun_56 (by first | rfl | assumption) (by omega) (by omega) (by decide) ?_
  first | refine ev_aload_n dX9_isBegun_57 rfl ?_ | refine ev_aloadX_n dX9_isBegun_57 rfl ?_
  refine ev_gI 4 dX9_isBegun_58 fX9_71 rfl (by first | rfl | assumption) rfl ?_
  rw [u54, u54, u54, u54, a4]
  refine ev_iconst dX9_isBegun_61 ?_
  refine ev_icmp_eq (tgt := 88) dX9_isBegun_62 (by decide) (by omega) (by omega) (fun hb62 => ?_) (fun hb62 => ?_)
  · refine ev_iconst dX9_isBegun_88 ?_
    exact ev_ireturn dX9_isBegun_89 (okR_z rfl (by first | exact Or.inl rfl | exact Or.inr rfl | assumption)) (rz (by first | exact ⟨yn_1 (by omega), rfl⟩ | exact ⟨yn_0 (by omega), rfl⟩))
  · first | refine ev_aload_n dX9_isBegun_65 rfl ?_ | refine ev_aloadX_n dX9_isBegun_65 rfl ?_
    refine ev_gI 4 dX9_isBegun_66 fX9_71 rfl (by first | rfl | assumption) rfl ?_
    rw [u54, u54, u54, u54, a4]
    refine ev_iconst dX9_isBegun_69 ?_
    refine ev_icmp_ne (tgt := 84) dX9_isBegun_70 (by decide) (by omega) (by omega) (fun hb70 => ?_) (fun hb70 => ?_)
    · refine ev_iconst dX9_isBegun_84 ?_
      refine ev_goto (tgt := 89) dX9_isBegun_85 (by decide) ?_
      exact ev_ireturn dX9_isBegun_89 (okR_z rfl (by first | exact Or.inl rfl | exact Or.inr rfl | assumption)) (rz (by first | exact ⟨yn_1 (by omega), rfl⟩ | exact ⟨yn_0 (by omega), rfl⟩))
    · first | refine ev_aload_n dX9_isBegun_73 rfl ?_ | refine ev_aloadX_n dX9_isBegun_73 rfl ?_
      refine ev_gI 5 dX9_isBegun_74 fX9_80 rfl (by first | rfl | assumption) rfl ?_
      rw [u54, u54, u54, u54, a5]
      first | refine ev_aload_n dX9_isBegun_77 rfl ?_ | refine ev_aloadX_n dX9_isBegun_77 rfl ?_
      refine ev_gI 2 dX9_isBegun_78 fX9_77 rfl (by first | rfl | assumption) rfl ?_
      rw [u54, u54, u54, u54, a2]
      refine ev_icmp_ge (tgt := 88) dX9_isBegun_81 (by decide) (by omega) (by omega) (fun hb81 => ?_) (fun hb81 => ?_)
      · refine ev_iconst dX9_isBegun_88 ?_
        exact ev_ireturn dX9_isBegun_89 (okR_z rfl (by first | exact Or.inl rfl | exact Or.inr rfl | assumption)) (rz (by first | exact ⟨yn_1 (by omega), rfl⟩ | exact ⟨yn_0 (by omega), rfl⟩))
      · refine ev_iconst dX9_isBegun_84 ?_
        refine ev_goto (tgt := 89) dX9_isBegun_85 (by decide) ?_
        exact ev_ireturn dX9_isBegun_89 (okR_z rfl (by first | exact Or.inl rfl | exact Or.inr rfl | assumption)) (rz (by first | exact ⟨yn_1 (by omega), rfl⟩ | exact ⟨yn_0 (by omega), rfl⟩))
/-- the letter that is due at a place, what it makes -/
def dgC (X : Mm) (p z : Int) : Prop := if p = 1 then (if X 54 4 = 4 then 48 + X 54 5 ≤ z ∧ z ≤ 48 + X 54 2 - 1 else 48 ≤ z ∧ z ≤ (if X 54 4 = 0 then 53 else 50)) else if p = 2 then 48 ≤ z ∧ z ≤ 53 else if p = 3 then z = 43 ∨ z = 45 else 48 ≤ z ∧ z ≤ 57
def dgY (X : Mm) (p z : Int) : Mm := if p = 1 then upM X 56 (4 * X 54 2 + 1) (z - 48) else if p = 2 then upM X 56 (4 * X 54 2 + 2) (z - 48) else if p = 3 then upM X 54 6 (if z = 45 then -1 else 1) else upM X 56 (4 * X 54 2 + 3) (X 54 6 * (z - 48) + 100)
theorem k_isFirst {z : Int} (hz : 1 ≤ z) (hz2 : z ≤ 126) (X : Mm) (h2 : 0 ≤ X 54 2) (h3 : X 54 2 ≤ 5) (h4 : 0 ≤ X 54 4 ∧ X 54 4 ≤ 4) (h5 : 0 ≤ X 54 5 ∧ X 54 5 ≤ 6) : Cm mX9_isFirstDigit [vR 54, vI z] X (fun r X' => yn (dgC X 1 z) r ∧ X' = dgY X 1 z) := by
  have eY : dgY X 1 z = upM X 56 (4 * X 54 2 + 1) (z - 48) := by unfold dgY; rw [if_pos rfl]
  have u54 : ∀ (Y : Mm) (i w j : Int), upM Y 56 i w 54 j = Y 54 j := fun Y i w j => upM_n (Or.inl (by decide))
  have eC : dgC X 1 z ↔ (if X 54 4 = 4 then 48 + X 54 5 ≤ z ∧ z ≤ 48 + X 54 2 - 1 else 48 ≤ z ∧ z ≤ (if X 54 4 = 0 then 53 else 50)) := by unfold dgC; rw [if_pos rfl]
  rw [eY, eC]
  refine cm_of (by decide +kernel) (fun _ => trivial) (Nat.le_of_ble_eq_true rfl) ?_
  first | refine ev_aload_n dX9_isFirstDigit_0 rfl ?_ | refine ev_aloadX_n dX9_isFirstDigit_0 rfl ?_
  refine ev_getR dX9_isFirstDigit_1 fX9_13 rfl (by first | rfl | assumption) (by first | rfl | assumption) ?_
  refine ev_iconst dX9_isFirstDigit_4 ?_
  first | refine ev_aload_n dX9_isFirstDigit_5 rfl ?_ | refine ev_aloadX_n dX9_isFirstDigit_5 rfl ?_
  refine ev_gI 2 dX9_isFirstDigit_6 fX9_77 rfl (by first | rfl | assumption) rfl ?_
  refine ev_imul dX9_isFirstDigit_9 ?_
  refine ev_iconst dX9_isFirstDigit_10 ?_
  refine ev_iadd dX9_isFirstDigit_11 ?_
  refine ev_iload_n dX9_isFirstDigit_12 rfl ?_
  refine ev_bipush dX9_isFirstDigit_13 ?_
  refine ev_isub dX9_isFirstDigit_15 ?_
  refine ev_iastore dX9_isFirstDigit_16 (by first | rfl | assumption) (by omega) (by omega) (by decide) ?_
  first | refine ev_aload_n dX9_isFirstDigit_17 rfl ?_ | refine ev_aloadX_n dX9_isFirstDigit_17 rfl ?_
  refine ev_gI 4 dX9_isFirstDigit_18 fX9_71 rfl (by first | rfl | assumption) rfl ?_
  rw [u54]
  refine ev_iconst dX9_isFirstDigit_21 ?_
  refine ev_icmp_ne (tgt := 51) dX9_isFirstDigit_22 (by decide) (by omega) (by omega) (fun hb22 => ?_) (fun hb22 => ?_)
  · refine ev_iload_n dX9_isFirstDigit_51 rfl ?_
    refine ev_i2l dX9_isFirstDigit_52 (by omega) ?_
    refine ev_ldc2 (z := 48) dX9_isFirstDigit_53 jX9_86 (by decide) ?_
    first | refine ev_aload_n dX9_isFirstDigit_56 rfl ?_ | refine ev_aloadX_n dX9_isFirstDigit_56 rfl ?_
    refine ev_gI 4 dX9_isFirstDigit_57 fX9_71 rfl (by first | rfl | assumption) rfl ?_
    rw [u54]
    refine ev_if_ne (tgt := 69) dX9_isFirstDigit_60 (by decide) (by omega) (fun hb60 => ?_) (fun hb60 => ?_)
    · refine ev_ldc2 (z := 50) dX9_isFirstDigit_69 jX9_90 (by decide) ?_
      refine ev_calls (k_in (by omega) (by omega) (by omega) _) dX9_isFirstDigit_72 tX9_in.1 kX9_60 tX9_in.2.1 tX9_in.2.2 ⟨⟨Nat.le_of_ble_eq_true rfl, Nat.le_of_ble_eq_true rfl⟩, Nat.le_of_ble_eq_true rfl, Nat.le_of_ble_eq_true rfl⟩ rfl (Nat.le_of_ble_eq_true rfl) ?_
      rintro r K' M' P' ⟨rfl, rfl, ⟨v72, rfl, hw72, hv72⟩, hM'⟩
      rw [hM']
      clear hM' M'
      exact ev_ireturn dX9_isFirstDigit_75 (okR_z rfl (by first | exact Or.inl rfl | exact Or.inr rfl | assumption)) (rz ⟨⟨_, rfl, by assumption, by first | (rw [if_pos (by omega)]; exact hv45) | (rw [if_neg (by omega), if_pos (by omega)]; exact hv72) | (rw [if_neg (by omega), if_neg (by omega)]; exact hv72)⟩, rfl⟩)
    · refine ev_ldc2 (z := 53) dX9_isFirstDigit_63 jX9_88 (by decide) ?_
      refine ev_goto (tgt := 72) dX9_isFirstDigit_66 (by decide) ?_
      refine ev_calls (k_in (by omega) (by omega) (by omega) _) dX9_isFirstDigit_72 tX9_in.1 kX9_60 tX9_in.2.1 tX9_in.2.2 ⟨⟨Nat.le_of_ble_eq_true rfl, Nat.le_of_ble_eq_true rfl⟩, Nat.le_of_ble_eq_true rfl, Nat.le_of_ble_eq_true rfl⟩ rfl (Nat.le_of_ble_eq_true rfl) ?_
      rintro r K' M' P' ⟨rfl, rfl, ⟨v72, rfl, hw72, hv72⟩, hM'⟩
      rw [hM']
      clear hM' M'
      exact ev_ireturn dX9_isFirstDigit_75 (okR_z rfl (by first | exact Or.inl rfl | exact Or.inr rfl | assumption)) (rz ⟨⟨_, rfl, by assumption, by first | (rw [if_pos (by omega)]; exact hv45) | (rw [if_neg (by omega), if_pos (by omega)]; exact hv72) | (rw [if_neg (by omega), if_neg (by omega)]; exact hv72)⟩, rfl⟩)
  · refine ev_iload_n dX9_isFirstDigit_25 rfl ?_
    refine ev_i2l dX9_isFirstDigit_26 (by omega) ?_
    refine ev_bipush dX9_isFirstDigit_27 ?_
    first | refine ev_aload_n dX9_isFirstDigit_29 rfl ?_ | refine ev_aloadX_n dX9_isFirstDigit_29 rfl ?_
    refine ev_gI 5 dX9_isFirstDigit_30 fX9_80 rfl (by first | rfl | assumption) rfl ?_
    rw [u54]
    refine ev_iadd dX9_isFirstDigit_33 ?_
    refine ev_i2l dX9_isFirstDigit_34 (by omega) ?_
    refine ev_bipush dX9_isFirstDigit_35 ?_
    first | refine ev_aload_n dX9_isFirstDigit_37 rfl ?_ | refine ev_aloadX_n dX9_isFirstDigit_37 rfl ?_
    refine ev_gI 2 dX9_isFirstDigit_38 fX9_77 rfl (by first | rfl | assumption) rfl ?_
    rw [u54]
    refine ev_iadd dX9_isFirstDigit_41 ?_
    refine ev_iconst dX9_isFirstDigit_42 ?_
    refine ev_isub dX9_isFirstDigit_43 ?_
    refine ev_i2l dX9_isFirstDigit_44 (by omega) ?_
    refine ev_calls (k_in (by omega) (by omega) (by omega) _) dX9_isFirstDigit_45 tX9_in.1 kX9_60 tX9_in.2.1 tX9_in.2.2 ⟨⟨Nat.le_of_ble_eq_true rfl, Nat.le_of_ble_eq_true rfl⟩, Nat.le_of_ble_eq_true rfl, Nat.le_of_ble_eq_true rfl⟩ rfl (Nat.le_of_ble_eq_true rfl) ?_
    rintro r K' M' P' ⟨rfl, rfl, ⟨v45, rfl, hw45, hv45⟩, hM'⟩
    rw [hM']
    clear hM' M'
    refine ev_goto (tgt := 75) dX9_isFirstDigit_48 (by decide) ?_
    exact ev_ireturn dX9_isFirstDigit_75 (okR_z rfl (by first | exact Or.inl rfl | exact Or.inr rfl | assumption)) (rz ⟨⟨_, rfl, by assumption, by first | (rw [if_pos (by omega)]; exact hv45) | (rw [if_neg (by omega), if_pos (by omega)]; exact hv72) | (rw [if_neg (by omega), if_neg (by omega)]; exact hv72)⟩, rfl⟩)
theorem k_isSecond {z : Int} (hz : 1 ≤ z) (hz2 : z ≤ 126) (X : Mm) (h2 : 0 ≤ X 54 2) (h3 : X 54 2 ≤ 5) : Cm mX9_isSecondDigit [vR 54, vI z] X (fun r X' => yn (dgC X 2 z) r ∧ X' = dgY X 2 z) := by
  have eY : dgY X 2 z = upM X 56 (4 * X 54 2 + 2) (z - 48) := by unfold dgY; rw [if_neg (by decide), if_pos rfl]
  have eC : dgC X 2 z ↔ (48 ≤ z ∧ z ≤ 53) := by unfold dgC; rw [if_neg (by decide), if_pos rfl]
  rw [eY, eC]
  refine cm_of (by decide +kernel) (fun _ => trivial) (Nat.le_of_ble_eq_true rfl) ?_
  first | refine ev_aload_n dX9_isSecondDigit_0 rfl ?_ | refine ev_aloadX_n dX9_isSecondDigit_0 rfl ?_
  refine ev_getR dX9_isSecondDigit_1 fX9_13 rfl (by first | rfl | assumption) (by first | rfl | assumption) ?_
  refine ev_iconst dX9_isSecondDigit_4 ?_
  first | refine ev_aload_n dX9_isSecondDigit_5 rfl ?_ | refine ev_aloadX_n dX9_isSecondDigit_5 rfl ?_
  refine ev_gI 2 dX9_isSecondDigit_6 fX9_77 rfl (by first | rfl | assumption) rfl ?_
  refine ev_imul dX9_isSecondDigit_9 ?_
  refine ev_iconst dX9_isSecondDigit_10 ?_
  refine ev_iadd dX9_isSecondDigit_11 ?_
  refine ev_iload_n dX9_isSecondDigit_12 rfl ?_
  refine ev_bipush dX9_isSecondDigit_13 ?_
  refine ev_isub dX9_isSecondDigit_15 ?_
  refine ev_iastore dX9_isSecondDigit_16 (by first | rfl | assumption) (by omega) (by omega) (by decide) ?_
  refine ev_iload_n dX9_isSecondDigit_17 rfl ?_
  refine ev_i2l dX9_isSecondDigit_18 (by omega) ?_
  refine ev_ldc2 (z := 48) dX9_isSecondDigit_19 jX9_86 (by decide) ?_
  refine ev_ldc2 (z := 53) dX9_isSecondDigit_22 jX9_88 (by decide) ?_
  refine ev_calls (k_in (by omega) (by omega) (by omega) _) dX9_isSecondDigit_25 tX9_in.1 kX9_60 tX9_in.2.1 tX9_in.2.2 ⟨⟨Nat.le_of_ble_eq_true rfl, Nat.le_of_ble_eq_true rfl⟩, Nat.le_of_ble_eq_true rfl, Nat.le_of_ble_eq_true rfl⟩ rfl (Nat.le_of_ble_eq_true rfl) ?_
  rintro r K' M' P' ⟨rfl, rfl, ⟨v25, rfl, hw25, hv25⟩, hM'⟩
  rw [hM']
  clear hM' M'
  exact ev_ireturn dX9_isSecondDigit_28 (okR_z rfl (by first | exact Or.inl rfl | exact Or.inr rfl | assumption)) (rz ⟨⟨_, rfl, hw25, hv25⟩, rfl⟩)
theorem k_isSignL {z : Int} (hz : 1 ≤ z) (hz2 : z ≤ 126) (X : Mm) : Cm mX9_isSign [vR 54, vI z] X (fun r X' => yn (dgC X 3 z) r ∧ X' = dgY X 3 z) := by
  have eY : dgY X 3 z = upM X 54 6 (if z = 45 then -1 else 1) := by unfold dgY; rw [if_neg (by decide), if_neg (by decide), if_pos rfl]
  have eC : dgC X 3 z ↔ (z = 43 ∨ z = 45) := by unfold dgC; rw [if_neg (by decide), if_neg (by decide), if_pos rfl]
  rw [eY, eC]
  refine cm_of (by decide +kernel) (fun _ => trivial) (Nat.le_of_ble_eq_true rfl) ?_
  first | refine ev_aload_n dX9_isSign_0 rfl ?_ | refine ev_aloadX_n dX9_isSign_0 rfl ?_
  refine ev_iload_n dX9_isSign_1 rfl ?_
  refine ev_bipush dX9_isSign_2 ?_
  refine ev_icmp_ne (tgt := 11) dX9_isSign_4 (by decide) (by omega) (by omega) (fun hb4 => ?_) (fun hb4 => ?_)
  · refine ev_iconst dX9_isSign_11 ?_
    refine ev_pI 6 dX9_isSign_12 sX9_92 rfl (by first | rfl | assumption) rfl ?_
    refine ev_iload_n dX9_isSign_15 rfl ?_
    refine ev_bipush dX9_isSign_16 ?_
    refine ev_icmp_eq (tgt := 27) dX9_isSign_18 (by decide) (by omega) (by omega) (fun hb18 => ?_) (fun hb18 => ?_)
    · refine ev_iconst dX9_isSign_27 ?_
      refine ev_goto (tgt := 32) dX9_isSign_28 (by decide) ?_
      exact ev_ireturn dX9_isSign_32 (okR_z rfl (by first | exact Or.inl rfl | exact Or.inr rfl | assumption)) (rz (by first | (exfalso; omega) | exact ⟨yn_1 (by omega), by first | rw [if_pos (by omega)] | rw [if_neg (by omega)]⟩ | exact ⟨yn_0 (by omega), by first | rw [if_pos (by omega)] | rw [if_neg (by omega)]⟩))
    · refine ev_iload_n dX9_isSign_21 rfl ?_
      refine ev_bipush dX9_isSign_22 ?_
      refine ev_icmp_ne (tgt := 31) dX9_isSign_24 (by decide) (by omega) (by omega) (fun hb24 => ?_) (fun hb24 => ?_)
      · refine ev_iconst dX9_isSign_31 ?_
        exact ev_ireturn dX9_isSign_32 (okR_z rfl (by first | exact Or.inl rfl | exact Or.inr rfl | assumption)) (rz (by first | (exfalso; omega) | exact ⟨yn_1 (by omega), by first | rw [if_pos (by omega)] | rw [if_neg (by omega)]⟩ | exact ⟨yn_0 (by omega), by first | rw [if_pos (by omega)] | rw [if_neg (by omega)]⟩))
      · refine ev_iconst dX9_isSign_27 ?_
        refine ev_goto (tgt := 32) dX9_isSign_28 (by decide) ?_
        exact ev_ireturn dX9_isSign_32 (okR_z rfl (by first | exact Or.inl rfl | exact Or.inr rfl | assumption)) (rz (by first | (exfalso; omega) | exact ⟨yn_1 (by omega), by first | rw [if_pos (by omega)] | rw [if_neg (by omega)]⟩ | exact ⟨yn_0 (by omega), by first | rw [if_pos (by omega)] | rw [if_neg (by omega)]⟩))
  · refine ev_iconst dX9_isSign_7 ?_
    refine ev_goto (tgt := 12) dX9_isSign_8 (by decide) ?_
    refine ev_pI 6 dX9_isSign_12 sX9_92 rfl (by first | rfl | assumption) rfl ?_
    refine ev_iload_n dX9_isSign_15 rfl ?_
    refine ev_bipush dX9_isSign_16 ?_
    refine ev_icmp_eq (tgt := 27) dX9_isSign_18 (by decide) (by omega) (by omega) (fun hb18 => ?_) (fun hb18 => ?_)
    · refine ev_iconst dX9_isSign_27 ?_
      refine ev_goto (tgt := 32) dX9_isSign_28 (by decide) ?_
      exact ev_ireturn dX9_isSign_32 (okR_z rfl (by first | exact Or.inl rfl | exact Or.inr rfl | assumption)) (rz (by first | (exfalso; omega) | exact ⟨yn_1 (by omega), by first | rw [if_pos (by omega)] | rw [if_neg (by omega)]⟩ | exact ⟨yn_0 (by omega), by first | rw [if_pos (by omega)] | rw [if_neg (by omega)]⟩))
    · refine ev_iload_n dX9_isSign_21 rfl ?_
      refine ev_bipush dX9_isSign_22 ?_
      refine ev_icmp_ne (tgt := 31) dX9_isSign_24 (by decide) (by omega) (by omega) (fun hb24 => ?_) (fun hb24 => ?_)
      · refine ev_iconst dX9_isSign_31 ?_
        exact ev_ireturn dX9_isSign_32 (okR_z rfl (by first | exact Or.inl rfl | exact Or.inr rfl | assumption)) (rz (by first | (exfalso; omega) | exact ⟨yn_1 (by omega), by first | rw [if_pos (by omega)] | rw [if_neg (by omega)]⟩ | exact ⟨yn_0 (by omega), by first | rw [if_pos (by omega)] | rw [if_neg (by omega)]⟩))
      · refine ev_iconst dX9_isSign_27 ?_
        refine ev_goto (tgt := 32) dX9_isSign_28 (by decide) ?_
        exact ev_ireturn dX9_isSign_32 (okR_z rfl (by first | exact Or.inl rfl | exact Or.inr rfl | assumption)) (rz (by first | (exfalso; omega) | exact ⟨yn_1 (by omega), by first | rw [if_pos (by omega)] | rw [if_neg (by omega)]⟩ | exact ⟨yn_0 (by omega), by first | rw [if_pos (by omega)] | rw [if_neg (by omega)]⟩))
theorem k_isLast {z : Int} (hz : 1 ≤ z) (hz2 : z ≤ 126) (X : Mm) (h2 : 0 ≤ X 54 2) (h3 : X 54 2 ≤ 5) {p : Int} (hp : p ≠ 1 ∧ p ≠ 2 ∧ p ≠ 3) : Cm mX9_isLastDigit [vR 54, vI z] X (fun r X' => yn (dgC X p z) r ∧ X' = dgY X p z) := by
  have eY : dgY X p z = upM X 56 (4 * X 54 2 + 3) (X 54 6 * (z - 48) + 100) := by unfold dgY; rw [if_neg hp.1, if_neg hp.2.1, if_neg hp.2.2]
  have eC : dgC X p z ↔ (48 ≤ z ∧ z ≤ 57) := by unfold dgC; rw [if_neg hp.1, if_neg hp.2.1, if_neg hp.2.2]
  rw [eY, eC]
  refine cm_of (by decide +kernel) (fun _ => trivial) (Nat.le_of_ble_eq_true rfl) ?_
  first | refine ev_aload_n dX9_isLastDigit_0 rfl ?_ | refine ev_aloadX_n dX9_isLastDigit_0 rfl ?_
  refine ev_getR dX9_isLastDigit_1 fX9_13 rfl (by first | rfl | assumption) (by first | rfl | assumption) ?_
  refine ev_iconst dX9_isLastDigit_4 ?_
  first | refine ev_aload_n dX9_isLastDigit_5 rfl ?_ | refine ev_aloadX_n dX9_isLastDigit_5 rfl ?_
  refine ev_gI 2 dX9_isLastDigit_6 fX9_77 rfl (by first | rfl | assumption) rfl ?_
  refine ev_imul dX9_isLastDigit_9 ?_
  refine ev_iconst dX9_isLastDigit_10 ?_
  refine ev_iadd dX9_isLastDigit_11 ?_
  first | refine ev_aload_n dX9_isLastDigit_12 rfl ?_ | refine ev_aloadX_n dX9_isLastDigit_12 rfl ?_
  refine ev_gI 6 dX9_isLastDigit_13 fX9_92 rfl (by first | rfl | assumption) rfl ?_
  refine ev_iload_n dX9_isLastDigit_16 rfl ?_
  refine ev_bipush dX9_isLastDigit_17 ?_
  refine ev_isub dX9_isLastDigit_19 ?_
  refine ev_imul dX9_isLastDigit_20 ?_
  refine ev_bipush dX9_isLastDigit_21 ?_
  refine ev_iadd dX9_isLastDigit_23 ?_
  refine ev_iastore dX9_isLastDigit_24 (by first | rfl | assumption) (by omega) (by omega) (by decide) ?_
  refine ev_iload_n dX9_isLastDigit_25 rfl ?_
  refine ev_i2l dX9_isLastDigit_26 (by omega) ?_
  refine ev_ldc2 (z := 48) dX9_isLastDigit_27 jX9_86 (by decide) ?_
  refine ev_ldc2 (z := 57) dX9_isLastDigit_30 jX9_95 (by decide) ?_
  refine ev_calls (k_in (by omega) (by omega) (by omega) _) dX9_isLastDigit_33 tX9_in.1 kX9_60 tX9_in.2.1 tX9_in.2.2 ⟨⟨Nat.le_of_ble_eq_true rfl, Nat.le_of_ble_eq_true rfl⟩, Nat.le_of_ble_eq_true rfl, Nat.le_of_ble_eq_true rfl⟩ rfl (Nat.le_of_ble_eq_true rfl) ?_
  rintro r K' M' P' ⟨rfl, rfl, ⟨v33, rfl, hw33, hv33⟩, hM'⟩
  rw [hM']
  clear hM' M'
  exact ev_ireturn dX9_isLastDigit_36 (okR_z rfl (by first | exact Or.inl rfl | exact Or.inr rfl | assumption)) (rz ⟨⟨_, rfl, hw33, hv33⟩, rfl⟩)
def endX (X : Mm) : Mm := if X 54 3 = lgO (X 54 4) then upM (upM X 54 5 (if X 54 4 = 4 then X 54 2 + 1 else X 54 5)) 54 2 (X 54 2 + 1) else X
theorem k_endStep (X : Mm) (h3 : inR (X 54 3)) (h4 : 0 ≤ X 54 4 ∧ X 54 4 ≤ 4) : Cm mX9_endStep [vR 54] X (fun r X' => r = none ∧ X' = endX X) := by
  have hl : 2 ≤ lgO (X 54 4) ∧ lgO (X 54 4) ≤ 5 := by unfold lgO; (repeat' split) <;> omega
  have u2 : ∀ w, upM X 54 5 w 54 2 = X 54 2 := fun w => upM_n (Or.inr (by decide))
  unfold endX
  refine cm_of (by decide +kernel) (fun _ => trivial) (Nat.le_of_ble_eq_true rfl) ?_
  first | refine ev_aload_n dX9_endStep_0 rfl ?_ | refine ev_aloadX_n dX9_endStep_0 rfl ?_
  refine ev_gI 3 dX9_endStep_1 fX9_74 rfl (by first | rfl | assumption) rfl ?_
  first | refine ev_aload_n dX9_endStep_4 rfl ?_ | refine ev_aloadX_n dX9_endStep_4 rfl ?_
  refine ev_gI 4 dX9_endStep_5 fX9_71 rfl (by first | rfl | assumption) rfl ?_
  refine ev_calls (k_longOf (by omega) X) dX9_endStep_8 tX9_longOf.1 kX9_83 tX9_longOf.2.1 tX9_longOf.2.2 ⟨⟨Nat.le_of_ble_eq_true rfl, Nat.le_of_ble_eq_true rfl⟩, Nat.le_of_ble_eq_true rfl, Nat.le_of_ble_eq_true rfl⟩ rfl (Nat.le_of_ble_eq_true rfl) ?_
  rintro r K' M' P' ⟨rfl, rfl, rfl, hM'⟩
  rw [hM']
  clear hM' M'
  refine ev_icmp_ne (tgt := 49) dX9_endStep_11 (by decide) (by omega) (by omega) (fun hb11 => ?_) (fun hb11 => ?_)
  · exact ev_return dX9_endStep_49 rfl (rz ⟨rfl, by first | rw [if_neg (by omega)] | (rw [if_pos (by omega)]; first | rw [if_pos (by omega)] | rw [if_neg (by omega)])⟩)
  · first | refine ev_aload_n dX9_endStep_14 rfl ?_ | refine ev_aloadX_n dX9_endStep_14 rfl ?_
    first | refine ev_aload_n dX9_endStep_15 rfl ?_ | refine ev_aloadX_n dX9_endStep_15 rfl ?_
    refine ev_gI 4 dX9_endStep_16 fX9_71 rfl (by first | rfl | assumption) rfl ?_
    refine ev_iconst dX9_endStep_19 ?_
    refine ev_icmp_ne (tgt := 32) dX9_endStep_20 (by decide) (by omega) (by omega) (fun hb20 => ?_) (fun hb20 => ?_)
    · first | refine ev_aload_n dX9_endStep_32 rfl ?_ | refine ev_aloadX_n dX9_endStep_32 rfl ?_
      refine ev_gI 5 dX9_endStep_33 fX9_80 rfl (by first | rfl | assumption) rfl ?_
      refine ev_pI 5 dX9_endStep_36 sX9_80 rfl (by first | rfl | assumption) rfl ?_
      first | refine ev_aload_n dX9_endStep_39 rfl ?_ | refine ev_aloadX_n dX9_endStep_39 rfl ?_
      refine ev_dup dX9_endStep_40 ?_
      refine ev_gI 2 dX9_endStep_41 fX9_77 rfl (by first | rfl | assumption) rfl ?_
      rw [u2]
      refine ev_iconst dX9_endStep_44 ?_
      refine ev_iadd dX9_endStep_45 ?_
      refine ev_pI 2 dX9_endStep_46 sX9_77 rfl (by first | rfl | assumption) rfl ?_
      exact ev_return dX9_endStep_49 rfl (rz ⟨rfl, by first | rw [if_neg (by omega)] | (rw [if_pos (by omega)]; first | rw [if_pos (by omega)] | rw [if_neg (by omega)])⟩)
    · first | refine ev_aload_n dX9_endStep_23 rfl ?_ | refine ev_aloadX_n dX9_endStep_23 rfl ?_
      refine ev_gI 2 dX9_endStep_24 fX9_77 rfl (by first | rfl | assumption) rfl ?_
      refine ev_iconst dX9_endStep_27 ?_
      refine ev_iadd dX9_endStep_28 ?_
      refine ev_goto (tgt := 36) dX9_endStep_29 (by decide) ?_
      refine ev_pI 5 dX9_endStep_36 sX9_80 rfl (by first | rfl | assumption) rfl ?_
      first | refine ev_aload_n dX9_endStep_39 rfl ?_ | refine ev_aloadX_n dX9_endStep_39 rfl ?_
      refine ev_dup dX9_endStep_40 ?_
      refine ev_gI 2 dX9_endStep_41 fX9_77 rfl (by first | rfl | assumption) rfl ?_
      rw [u2]
      refine ev_iconst dX9_endStep_44 ?_
      refine ev_iadd dX9_endStep_45 ?_
      refine ev_pI 2 dX9_endStep_46 sX9_77 rfl (by first | rfl | assumption) rfl ?_
      exact ev_return dX9_endStep_49 rfl (rz ⟨rfl, by first | rw [if_neg (by omega)] | (rw [if_pos (by omega)]; first | rw [if_pos (by omega)] | rw [if_neg (by omega)])⟩)
def plO (X : Mm) : Int := X 54 3 + (if X 54 4 = 3 ∧ 1 < X 54 3 then 1 else 0)
theorem dgY_54 {X : Mm} {p z j : Int} (h : j ≠ 6) : dgY X p z 54 j = X 54 j := by
  unfold dgY
  (repeat' split) <;> first | exact upM_n (Or.inr h) | exact upM_n (Or.inl (by decide))
theorem k_isInside {z : Int} (hz : 1 ≤ z) (hz2 : z ≤ 126) (X : Mm) (h2 : 0 ≤ X 54 2) (h2' : X 54 2 ≤ 5) (h3 : 1 ≤ X 54 3 ∧ X 54 3 ≤ 4) (h4 : 0 ≤ X 54 4 ∧ X 54 4 ≤ 4) (h5 : 0 ≤ X 54 5 ∧ X 54 5 ≤ 6) : Cm mX9_isInside [vR 54, vI z] X (fun r X' => (r = some (vI 0) ∧ ¬ dgC X (plO X) z ∧ X' = upM (dgY X (plO X) z) 54 3 (X 54 3 + 1)) ∨ (r = some (vI 1) ∧ dgC X (plO X) z ∧ X' = endX (upM (dgY X (plO X) z) 54 3 (X 54 3 + 1)))) := by
  have tail : ∀ (p v : Int), p = plO X → (v = 0 ∨ v = 1) → (v = 1 ↔ dgC X p z) → Ev mX9_isInside 71 [some (vR 54), some (vI z), some (vI p), none] [vI v] KK (dgY X p z) PP 0 0 (Rz mX9_isInside (fun r X' => (r = some (vI 0) ∧ ¬ dgC X (plO X) z ∧ X' = upM (dgY X (plO X) z) 54 3 (X 54 3 + 1)) ∨ (r = some (vI 1) ∧ dgC X (plO X) z ∧ X' = endX (upM (dgY X (plO X) z) 54 3 (X 54 3 + 1))))) := by
    intro p v hp hv hi
    have y3 : dgY X p z 54 3 = X 54 3 := dgY_54 (by decide)
    have y4 : dgY X p z 54 4 = X 54 4 := dgY_54 (by decide)
    rw [← hp]
    generalize dgY X p z = Y at *
    have w3 : upM Y 54 3 (X 54 3 + 1) 54 3 = X 54 3 + 1 := upM_s _ _ _ _
    have w4 : upM Y 54 3 (X 54 3 + 1) 54 4 = X 54 4 := by rw [upM_n (Or.inr (by decide))]; exact y4
    have v0 : v ≠ 1 → v = 0 := fun h => by omega
    refine ev_istore_n dX9_isInside_71 (by decide) ?_
    first | refine ev_aload_n dX9_isInside_72 rfl ?_ | refine ev_aloadX_n dX9_isInside_72 rfl ?_
    refine ev_dup dX9_isInside_73 ?_
    refine ev_gI 3 dX9_isInside_74 fX9_74 rfl (by first | rfl | assumption) rfl ?_
    rw [y3]
    refine ev_iconst dX9_isInside_77 ?_
    refine ev_iadd dX9_isInside_78 ?_
    refine ev_pI 3 dX9_isInside_79 sX9_74 rfl (by first | rfl | assumption) rfl ?_
    refine ev_iload_n dX9_isInside_82 rfl ?_
    refine ev_if_eq (tgt := 90) dX9_isInside_83 (by decide) (by omega) (fun hb83 => ?_) (fun hb83 => ?_)
    · refine ev_iload_n dX9_isInside_90 rfl ?_
      exact ev_ireturn dX9_isInside_91 (okR_z rfl (by first | exact Or.inl rfl | exact Or.inr rfl | assumption)) (rz (by first | (have e : v = 0 := by omega); exact Or.inl ⟨by rw [e], (not_congr hi).mp (by omega), rfl⟩ | (have e : v = 1 := by omega); exact Or.inr ⟨by rw [e], hi.mp e, rfl⟩))
    · first | refine ev_aload_n dX9_isInside_86 rfl ?_ | refine ev_aloadX_n dX9_isInside_86 rfl ?_
      refine ev_callv (ci := 9) (k_endStep _ (by rw [w3]; omega) (by rw [w4]; exact h4)) dX9_isInside_87 tX9_endStep.1 kX9_110 tX9_endStep.2.1 tX9_endStep.2.2.1 rfl (by first | rfl | assumption) tX9_endStep.2.2.2 ⟨⟨Nat.le_of_ble_eq_true rfl, Nat.le_of_ble_eq_true rfl⟩, Nat.le_of_ble_eq_true rfl, Nat.le_of_ble_eq_true rfl⟩ rfl (Nat.le_of_ble_eq_true rfl) ?_
      rintro r K' M' P' ⟨rfl, rfl, rfl, hM'⟩
      rw [hM']
      clear hM' M'
      refine ev_iload_n dX9_isInside_90 rfl ?_
      exact ev_ireturn dX9_isInside_91 (okR_z rfl (by first | exact Or.inl rfl | exact Or.inr rfl | assumption)) (rz (by first | (have e : v = 0 := by omega); exact Or.inl ⟨by rw [e], (not_congr hi).mp (by omega), rfl⟩ | (have e : v = 1 := by omega); exact Or.inr ⟨by rw [e], hi.mp e, rfl⟩))
  have pl : plO X = X 54 3 + (if X 54 4 = 3 ∧ 1 < X 54 3 then 1 else 0) := rfl
  have t27 : ∀ p : Int, p = plO X → Ev mX9_isInside 27 [some (vR 54), some (vI z), some (vI p), none] [] KK X PP 0 0 (Rz mX9_isInside (fun r X' => (r = some (vI 0) ∧ ¬ dgC X (plO X) z ∧ X' = upM (dgY X (plO X) z) 54 3 (X 54 3 + 1)) ∨ (r = some (vI 1) ∧ dgC X (plO X) z ∧ X' = endX (upM (dgY X (plO X) z) 54 3 (X 54 3 + 1))))) := by
    intro p hp
    have hpr : 1 ≤ p ∧ p ≤ 5 := by rw [hp, pl]; split <;> omega
    clear pl
    refine ev_iload_n dX9_isInside_27 rfl ?_
    refine ev_iconst dX9_isInside_28 ?_
    refine ev_icmp_ne (tgt := 40) dX9_isInside_29 (by decide) (by omega) (by omega) (fun hb29 => ?_) (fun hb29 => ?_)
    · refine ev_iload_n dX9_isInside_40 rfl ?_
      refine ev_iconst dX9_isInside_41 ?_
      refine ev_icmp_ne (tgt := 53) dX9_isInside_42 (by decide) (by omega) (by omega) (fun hb42 => ?_) (fun hb42 => ?_)
      · refine ev_iload_n dX9_isInside_53 rfl ?_
        refine ev_iconst dX9_isInside_54 ?_
        refine ev_icmp_ne (tgt := 66) dX9_isInside_55 (by decide) (by omega) (by omega) (fun hb55 => ?_) (fun hb55 => ?_)
        · first | refine ev_aload_n dX9_isInside_66 rfl ?_ | refine ev_aloadX_n dX9_isInside_66 rfl ?_
          refine ev_iload_n dX9_isInside_67 rfl ?_
          refine ev_callv (ci := 9) (k_isLast (p := p) hz hz2 X h2 h2' (by omega)) dX9_isInside_68 tX9_isLastDigit.1 kX9_107 tX9_isLastDigit.2.1 tX9_isLastDigit.2.2.1 rfl (by first | rfl | assumption) tX9_isLastDigit.2.2.2 ⟨⟨Nat.le_of_ble_eq_true rfl, Nat.le_of_ble_eq_true rfl⟩, Nat.le_of_ble_eq_true rfl, Nat.le_of_ble_eq_true rfl⟩ rfl (Nat.le_of_ble_eq_true rfl) ?_
          rintro r K' M' P' ⟨rfl, rfl, ⟨v, rfl, hw, hv⟩, hM'⟩
          rw [hM']
          exact ev_to (tail _ v hp hw hv) (by repeat (first | exact trivial | refine ⟨rfl, ?_⟩)) rfl rfl rfl rfl
        · first | refine ev_aload_n dX9_isInside_58 rfl ?_ | refine ev_aloadX_n dX9_isInside_58 rfl ?_
          refine ev_iload_n dX9_isInside_59 rfl ?_
          refine ev_callv (ci := 9) (k_isSignL hz hz2 X) dX9_isInside_60 tX9_isSign.1 kX9_104 tX9_isSign.2.1 tX9_isSign.2.2.1 rfl (by first | rfl | assumption) tX9_isSign.2.2.2 ⟨⟨Nat.le_of_ble_eq_true rfl, Nat.le_of_ble_eq_true rfl⟩, Nat.le_of_ble_eq_true rfl, Nat.le_of_ble_eq_true rfl⟩ rfl (Nat.le_of_ble_eq_true rfl) ?_
          rintro r K' M' P' ⟨rfl, rfl, ⟨v, rfl, hw, hv⟩, hM'⟩
          rw [hM']
          obtain rfl : p = 3 := by omega
          refine ev_goto (tgt := 71) dX9_isInside_63 (by decide) ?_
          exact ev_to (tail _ v hp hw hv) (by repeat (first | exact trivial | refine ⟨rfl, ?_⟩)) rfl rfl rfl rfl
      · first | refine ev_aload_n dX9_isInside_45 rfl ?_ | refine ev_aloadX_n dX9_isInside_45 rfl ?_
        refine ev_iload_n dX9_isInside_46 rfl ?_
        refine ev_callv (ci := 9) (k_isSecond hz hz2 X h2 h2') dX9_isInside_47 tX9_isSecondDigit.1 kX9_101 tX9_isSecondDigit.2.1 tX9_isSecondDigit.2.2.1 rfl (by first | rfl | assumption) tX9_isSecondDigit.2.2.2 ⟨⟨Nat.le_of_ble_eq_true rfl, Nat.le_of_ble_eq_true rfl⟩, Nat.le_of_ble_eq_true rfl, Nat.le_of_ble_eq_true rfl⟩ rfl (Nat.le_of_ble_eq_true rfl) ?_
        rintro r K' M' P' ⟨rfl, rfl, ⟨v, rfl, hw, hv⟩, hM'⟩
        rw [hM']
        obtain rfl : p = 2 := by omega
        refine ev_goto (tgt := 71) dX9_isInside_50 (by decide) ?_
        exact ev_to (tail _ v hp hw hv) (by repeat (first | exact trivial | refine ⟨rfl, ?_⟩)) rfl rfl rfl rfl
    · first | refine ev_aload_n dX9_isInside_32 rfl ?_ | refine ev_aloadX_n dX9_isInside_32 rfl ?_
      refine ev_iload_n dX9_isInside_33 rfl ?_
      refine ev_callv (ci := 9) (k_isFirst hz hz2 X h2 h2' h4 h5) dX9_isInside_34 tX9_isFirstDigit.1 kX9_97 tX9_isFirstDigit.2.1 tX9_isFirstDigit.2.2.1 rfl (by first | rfl | assumption) tX9_isFirstDigit.2.2.2 ⟨⟨Nat.le_of_ble_eq_true rfl, Nat.le_of_ble_eq_true rfl⟩, Nat.le_of_ble_eq_true rfl, Nat.le_of_ble_eq_true rfl⟩ rfl (Nat.le_of_ble_eq_true rfl) ?_
      rintro r K' M' P' ⟨rfl, rfl, ⟨v, rfl, hw, hv⟩, hM'⟩
      rw [hM']
      obtain rfl : p = 1 := by omega
      refine ev_goto (tgt := 71) dX9_isInside_37 (by decide) ?_
      exact ev_to (tail _ v hp hw hv) (by repeat (first | exact trivial | refine ⟨rfl, ?_⟩)) rfl rfl rfl rfl
  refine cm_of (by decide +kernel) (fun _ => trivial) (Nat.le_of_ble_eq_true rfl) ?_
  first | refine ev_aload_n dX9_isInside_0 rfl ?_ | refine ev_aloadX_n dX9_isInside_0 rfl ?_
  refine ev_gI 3 dX9_isInside_1 fX9_74 rfl (by first | rfl | assumption) rfl ?_
  first | refine ev_aload_n dX9_isInside_4 rfl ?_ | refine ev_aloadX_n dX9_isInside_4 rfl ?_
  refine ev_gI 4 dX9_isInside_5 fX9_71 rfl (by first | rfl | assumption) rfl ?_
  refine ev_iconst dX9_isInside_8 ?_
  refine ev_icmp_ne (tgt := 24) dX9_isInside_9 (by decide) (by omega) (by omega) (fun hb9 => ?_) (fun hb9 => ?_)
  · refine ev_iconst dX9_isInside_24 ?_
    refine ev_iadd dX9_isInside_25 ?_
    refine ev_istore_n dX9_isInside_26 (by decide) ?_
    refine ev_to (t27 _ ?_) (by repeat (first | exact trivial | refine ⟨rfl, ?_⟩)) rfl rfl rfl rfl
    rw [pl]
    first | rw [if_pos (by omega)] | rw [if_neg (by omega)]
  · first | refine ev_aload_n dX9_isInside_12 rfl ?_ | refine ev_aloadX_n dX9_isInside_12 rfl ?_
    refine ev_gI 3 dX9_isInside_13 fX9_74 rfl (by first | rfl | assumption) rfl ?_
    refine ev_iconst dX9_isInside_16 ?_
    refine ev_icmp_le (tgt := 24) dX9_isInside_17 (by decide) (by omega) (by omega) (fun hb17 => ?_) (fun hb17 => ?_)
    · refine ev_iconst dX9_isInside_24 ?_
      refine ev_iadd dX9_isInside_25 ?_
      refine ev_istore_n dX9_isInside_26 (by decide) ?_
      refine ev_to (t27 _ ?_) (by repeat (first | exact trivial | refine ⟨rfl, ?_⟩)) rfl rfl rfl rfl
      rw [pl]
      first | rw [if_pos (by omega)] | rw [if_neg (by omega)]
    · refine ev_iconst dX9_isInside_20 ?_
      refine ev_goto (tgt := 25) dX9_isInside_21 (by decide) ?_
      refine ev_iadd dX9_isInside_25 ?_
      refine ev_istore_n dX9_isInside_26 (by decide) ?_
      refine ev_to (t27 _ ?_) (by repeat (first | exact trivial | refine ⟨rfl, ?_⟩)) rfl rfl rfl rfl
      rw [pl]
      first | rw [if_pos (by omega)] | rw [if_neg (by omega)]
