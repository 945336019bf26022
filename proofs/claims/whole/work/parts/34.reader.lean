/-! ===== Reader ===== -/
def fm (kd : Int) : Nat := if kd = 0 then 1 else if kd = 1 then 2 else if kd = 2 then 3 else if kd = 3 then 4 else 5
theorem fm_lt (kd : Int) : fm kd < 6 := by
  unfold fm
  repeat' split
  all_goals omega
abbrev fml (kd : Int) : Int := (s_len.getD (fm kd) 0 : Nat)
def bllM (M : Mm) : Int := bll (M 5) (M 4 4).toNat
/-- does a letter fit where due is due -/
def fitP (M : Mm) (due z : Int) : Prop := if due = 120 then 0 ≤ z - 48 ∧ z - 48 < 6 else if due = 110 then 0 ≤ z - 48 ∧ z - 48 < 3 else if due = 100 then 0 ≤ z - 48 ∧ z - 48 ≤ 9 else if due = 107 then bllM M ≤ z - 48 ∧ z - 48 < M 4 4 else z = 43 ∨ z = 45
def keepM (M : Mm) (due z : Int) : Mm := if due = 43 then upM M 3 6 (if z = 45 then 1 else 0) else if due = 100 then upM M 3 5 (if M 3 6 = 0 then z - 48 else -(z - 48)) else if M 3 2 = 0 then upM M 3 3 (z - 48) else upM M 3 4 (z - 48)
theorem c_isSigned {x : Int} (hx : inR x) (M : Mm) : Cm mX8_isSigned [vI x] M (fun r M' => yn (0 ≤ x ∧ x < 6) r ∧ M' = M) := by
  refine cm_of (by decide +kernel) (fun _ => trivial) (Nat.le_of_ble_eq_true rfl) ?_
  refine ev_iload_n dX8_isSigned_0 rfl ?_
  refine ev_if_lt (tgt := 14) dX8_isSigned_1 (by decide) (by omega) (fun h => ?_) (fun h => ?_)
  · refine ev_iconst dX8_isSigned_14 ?_
    exact ev_ireturn dX8_isSigned_15 (okR_z rfl (by first | exact Or.inl rfl | exact Or.inr rfl | assumption)) (rz ⟨yn_0 (fun z => by omega), rfl⟩)
  refine ev_iload_n dX8_isSigned_4 rfl ?_
  refine ev_bipush dX8_isSigned_5 ?_
  refine ev_icmp_ge (tgt := 14) dX8_isSigned_7 (by decide) (by omega) (by omega) (fun h2 => ?_) (fun h2 => ?_)
  · refine ev_iconst dX8_isSigned_14 ?_
    exact ev_ireturn dX8_isSigned_15 (okR_z rfl (by first | exact Or.inl rfl | exact Or.inr rfl | assumption)) (rz ⟨yn_0 (fun z => by omega), rfl⟩)
  refine ev_iconst dX8_isSigned_10 ?_
  refine ev_goto (tgt := 15) dX8_isSigned_11 (by decide) ?_
  exact ev_ireturn dX8_isSigned_15 (okR_z rfl (by first | exact Or.inl rfl | exact Or.inr rfl | assumption)) (rz ⟨yn_1 (by omega), rfl⟩)
theorem c_formOf {kd : Int} (hk : -1 ≤ kd) (hk2 : kd ≤ 4) (M : Mm) : Cm mX3_formOf [vI kd] M (fun r M' => r = some (vX (2 + fm kd)) ∧ M' = M) := by
  refine cm_of (by decide +kernel) (fun _ => trivial) (Nat.le_of_ble_eq_true rfl) ?_
  refine ev_iload_n dX3_formOf_0 rfl ?_
  have h6 : kd = 0 ∨ kd = 1 ∨ kd = 2 ∨ kd = 3 ∨ kd < 0 ∨ 3 < kd := by omega
  rcases h6 with h | h | h | h | h
  · refine ev_tableIn (off := 31) (tgt := 32) dX3_formOf_1 (by omega) (by omega) (by omega) (by rw [h]; rfl) (by decide) ?_
    refine ev_ldcT (i := 1) (by decide) rfl dX3_formOf_32 ?_
    exact ev_areturn dX3_formOf_34 rfl (rz ⟨by rw [h]; rfl, rfl⟩)
  · refine ev_tableIn (off := 34) (tgt := 35) dX3_formOf_1 (by omega) (by omega) (by omega) (by rw [h]; rfl) (by decide) ?_
    refine ev_ldcT (i := 2) (by decide) rfl dX3_formOf_35 ?_
    exact ev_areturn dX3_formOf_37 rfl (rz ⟨by rw [h]; rfl, rfl⟩)
  · refine ev_tableIn (off := 37) (tgt := 38) dX3_formOf_1 (by omega) (by omega) (by omega) (by rw [h]; rfl) (by decide) ?_
    refine ev_ldcT (i := 3) (by decide) rfl dX3_formOf_38 ?_
    exact ev_areturn dX3_formOf_40 rfl (rz ⟨by rw [h]; rfl, rfl⟩)
  · refine ev_tableIn (off := 40) (tgt := 41) dX3_formOf_1 (by omega) (by omega) (by omega) (by rw [h]; rfl) (by decide) ?_
    refine ev_ldcT (i := 4) (by decide) rfl dX3_formOf_41 ?_
    exact ev_areturn dX3_formOf_43 rfl (rz ⟨by rw [h]; rfl, rfl⟩)
  · refine ev_tableOut (tgt := 44) dX3_formOf_1 (by omega) (by omega) (by decide) ?_
    refine ev_ldcT (i := 5) (by decide) rfl dX3_formOf_44 ?_
    exact ev_areturn dX3_formOf_46 rfl (rz ⟨by unfold fm; rw [if_neg (by omega), if_neg (by omega), if_neg (by omega), if_neg (by omega)], rfl⟩)
theorem c_fits {due z : Int} (hd1 : due = 120 ∨ due = 110 ∨ due = 100 ∨ due = 107 ∨ due = 43) (hz : 1 ≤ z) (hz2 : z ≤ 126) (M : Mm) {n : Nat} (hn : M 4 4 = n) (hn6 : n ≤ 6) (hR : ∀ j, 0 ≤ j → j < 6 → inR (M 5 j)) : Cm mX3_fits [vR 3, vI due, vI z] M (fun r M' => yn (fitP M due z) r ∧ M' = M) := by
  have hb := bll_bd (M 5) n
  refine cm_of (by decide +kernel) (fun _ => trivial) (Nat.le_of_ble_eq_true rfl) ?_
  refine ev_iload_n dX3_fits_0 rfl ?_
  refine ev_bipush dX3_fits_1 ?_
  refine ev_isub dX3_fits_3 ?_
  refine ev_istore_n dX3_fits_4 (by decide) ?_
  refine ev_iload_n dX3_fits_5 rfl ?_
  rcases hd1 with h | h | h | h | h
  · subst h
    refine ev_lookup (off := 42) (tgt := 48) dX3_fits_6 (by decide) (by decide) (by decide) (by decide) ?_
    refine ev_iload_n dX3_fits_48 rfl ?_
    refine ev_calls (c_isSigned (by omega) _) dX3_fits_49 tX8_isSigned.1 kX3_103 tX8_isSigned.2.1 tX8_isSigned.2.2 ⟨⟨Nat.le_of_ble_eq_true rfl, Nat.le_of_ble_eq_true rfl⟩, Nat.le_of_ble_eq_true rfl, Nat.le_of_ble_eq_true rfl⟩ rfl (Nat.le_of_ble_eq_true rfl) ?_
    rintro r K' M8 P' ⟨rfl, rfl, ⟨v, rfl, hv1, hv2⟩, hM8⟩
    rw [hM8]
    exact ev_ireturn dX3_fits_52 (okR_z rfl hv1) (rz ⟨⟨v, rfl, hv1, by rw [hv2]; unfold fitP; rw [if_pos rfl]⟩, rfl⟩)
  · subst h
    refine ev_lookup (off := 47) (tgt := 53) dX3_fits_6 (by decide) (by decide) (by decide) (by decide) ?_
    have hf : fitP M 110 z ↔ 0 ≤ z - 48 ∧ z - 48 < 3 := by unfold fitP; rw [if_neg (by decide), if_pos rfl]
    refine ev_iload_n dX3_fits_53 rfl ?_
    refine ev_if_lt (tgt := 66) dX3_fits_54 (by decide) (by omega) (fun h1 => ?_) (fun h1 => ?_)
    · refine ev_iconst dX3_fits_66 ?_
      exact ev_ireturn dX3_fits_67 (okR_z rfl (by first | exact Or.inl rfl | exact Or.inr rfl | assumption)) (rz ⟨yn_0 (fun q => by have := hf.mp q; omega), rfl⟩)
    refine ev_iload_n dX3_fits_57 rfl ?_
    refine ev_iconst dX3_fits_58 ?_
    refine ev_icmp_ge (tgt := 66) dX3_fits_59 (by decide) (by omega) (by omega) (fun h2 => ?_) (fun h2 => ?_)
    · refine ev_iconst dX3_fits_66 ?_
      exact ev_ireturn dX3_fits_67 (okR_z rfl (by first | exact Or.inl rfl | exact Or.inr rfl | assumption)) (rz ⟨yn_0 (fun q => by have := hf.mp q; omega), rfl⟩)
    refine ev_iconst dX3_fits_62 ?_
    refine ev_goto (tgt := 67) dX3_fits_63 (by decide) ?_
    exact ev_ireturn dX3_fits_67 (okR_z rfl (by first | exact Or.inl rfl | exact Or.inr rfl | assumption)) (rz ⟨yn_1 (hf.mpr (by omega)), rfl⟩)
  · subst h
    refine ev_lookup (off := 62) (tgt := 68) dX3_fits_6 (by decide) (by decide) (by decide) (by decide) ?_
    have hf : fitP M 100 z ↔ 0 ≤ z - 48 ∧ z - 48 ≤ 9 := by unfold fitP; rw [if_neg (by decide), if_neg (by decide), if_pos rfl]
    refine ev_iload_n dX3_fits_68 rfl ?_
    refine ev_if_lt (tgt := 82) dX3_fits_69 (by decide) (by omega) (fun h1 => ?_) (fun h1 => ?_)
    · refine ev_iconst dX3_fits_82 ?_
      exact ev_ireturn dX3_fits_83 (okR_z rfl (by first | exact Or.inl rfl | exact Or.inr rfl | assumption)) (rz ⟨yn_0 (fun q => by have := hf.mp q; omega), rfl⟩)
    refine ev_iload_n dX3_fits_72 rfl ?_
    refine ev_bipush dX3_fits_73 ?_
    refine ev_icmp_gt (tgt := 82) dX3_fits_75 (by decide) (by omega) (by omega) (fun h2 => ?_) (fun h2 => ?_)
    · refine ev_iconst dX3_fits_82 ?_
      exact ev_ireturn dX3_fits_83 (okR_z rfl (by first | exact Or.inl rfl | exact Or.inr rfl | assumption)) (rz ⟨yn_0 (fun q => by have := hf.mp q; omega), rfl⟩)
    refine ev_iconst dX3_fits_78 ?_
    refine ev_goto (tgt := 83) dX3_fits_79 (by decide) ?_
    exact ev_ireturn dX3_fits_83 (okR_z rfl (by first | exact Or.inl rfl | exact Or.inr rfl | assumption)) (rz ⟨yn_1 (hf.mpr (by omega)), rfl⟩)
  · subst h
    refine ev_lookup (off := 78) (tgt := 84) dX3_fits_6 (by decide) (by decide) (by decide) (by decide) ?_
    have eb : bllM M = bll (M 5) n := by unfold bllM; rw [hn, Int.toNat_natCast]
    have hf : fitP M 107 z ↔ bll (M 5) n ≤ z - 48 ∧ z - 48 < M 4 4 := by unfold fitP; rw [if_neg (by decide), if_neg (by decide), if_neg (by decide), if_pos rfl, eb]
    refine ev_iload_n dX3_fits_84 rfl ?_
    first | refine ev_aload_n dX3_fits_85 rfl ?_ | refine ev_aloadX_n dX3_fits_85 rfl ?_
    refine ev_getR dX3_fits_86 fX3_12 rfl (by first | rfl | assumption) (by first | rfl | assumption) ?_
    refine ev_callv (ci := 7) (c_behind isSt4 M hn hn6 hR) dX3_fits_89 tX7_behindLastLoop.1 kX3_86 tX7_behindLastLoop.2.1 tX7_behindLastLoop.2.2.1 rfl (by first | rfl | assumption) tX7_behindLastLoop.2.2.2 ⟨⟨Nat.le_of_ble_eq_true rfl, Nat.le_of_ble_eq_true rfl⟩, Nat.le_of_ble_eq_true rfl, Nat.le_of_ble_eq_true rfl⟩ rfl (Nat.le_of_ble_eq_true rfl) ?_
    rintro r K' M' P' ⟨rfl, rfl, rfl, hM'⟩
    rw [hM']
    clear hM' M'
    simp only [Nat.reduceAdd]
    refine ev_icmp_lt (tgt := 110) dX3_fits_92 (by decide) (by omega) (by omega) (fun h1 => ?_) (fun h1 => ?_)
    · refine ev_iconst dX3_fits_110 ?_
      exact ev_ireturn dX3_fits_111 (okR_z rfl (by first | exact Or.inl rfl | exact Or.inr rfl | assumption)) (rz ⟨yn_0 (fun q => by have := hf.mp q; omega), rfl⟩)
    refine ev_iload_n dX3_fits_95 rfl ?_
    first | refine ev_aload_n dX3_fits_96 rfl ?_ | refine ev_aloadX_n dX3_fits_96 rfl ?_
    refine ev_getR dX3_fits_97 fX3_12 rfl (by first | rfl | assumption) (by first | rfl | assumption) ?_
    refine ev_gI 4 dX3_fits_100 fX3_18 rfl (by first | rfl | assumption) rfl ?_
    refine ev_icmp_ge (tgt := 110) dX3_fits_103 (by decide) (by omega) (by omega) (fun h2 => ?_) (fun h2 => ?_)
    · refine ev_iconst dX3_fits_110 ?_
      exact ev_ireturn dX3_fits_111 (okR_z rfl (by first | exact Or.inl rfl | exact Or.inr rfl | assumption)) (rz ⟨yn_0 (fun q => by have := hf.mp q; omega), rfl⟩)
    refine ev_iconst dX3_fits_106 ?_
    refine ev_goto (tgt := 111) dX3_fits_107 (by decide) ?_
    exact ev_ireturn dX3_fits_111 (okR_z rfl (by first | exact Or.inl rfl | exact Or.inr rfl | assumption)) (rz ⟨yn_1 (hf.mpr (by omega)), rfl⟩)
  · subst h
    refine ev_lookup (off := 106) (tgt := 112) dX3_fits_6 (by decide) (by decide) (by decide) (by decide) ?_
    have hf : fitP M 43 z ↔ z = 43 ∨ z = 45 := by unfold fitP; rw [if_neg (by decide), if_neg (by decide), if_neg (by decide), if_neg (by decide)]
    refine ev_iload_n dX3_fits_112 rfl ?_
    refine ev_bipush dX3_fits_113 ?_
    refine ev_icmp_eq (tgt := 124) dX3_fits_115 (by decide) (by omega) (by omega) (fun h1 => ?_) (fun h1 => ?_)
    · refine ev_iconst dX3_fits_124 ?_
      refine ev_goto (tgt := 129) dX3_fits_125 (by decide) ?_
      exact ev_ireturn dX3_fits_129 (okR_z rfl (by first | exact Or.inl rfl | exact Or.inr rfl | assumption)) (rz ⟨yn_1 (hf.mpr (Or.inl h1)), rfl⟩)
    refine ev_iload_n dX3_fits_118 rfl ?_
    refine ev_bipush dX3_fits_119 ?_
    refine ev_icmp_ne (tgt := 128) dX3_fits_121 (by decide) (by omega) (by omega) (fun h2 => ?_) (fun h2 => ?_)
    · refine ev_iconst dX3_fits_128 ?_
      exact ev_ireturn dX3_fits_129 (okR_z rfl (by first | exact Or.inl rfl | exact Or.inr rfl | assumption)) (rz ⟨yn_0 (fun q => by rcases hf.mp q with q | q; exact h1 q; exact h2 q), rfl⟩)
    refine ev_iconst dX3_fits_124 ?_
    refine ev_goto (tgt := 129) dX3_fits_125 (by decide) ?_
    exact ev_ireturn dX3_fits_129 (okR_z rfl (by first | exact Or.inl rfl | exact Or.inr rfl | assumption)) (rz ⟨yn_1 (hf.mpr (Or.inr h2)), rfl⟩)
theorem c_keep {due z : Int} (hd1 : due = 120 ∨ due = 110 ∨ due = 100 ∨ due = 107 ∨ due = 43) (hz : 1 ≤ z) (hz2 : z ≤ 126) (M : Mm) (hb : M 3 6 = 0 ∨ M 3 6 = 1) (hp : inR (M 3 2)) : Cm mX3_keep [vR 3, vI due, vI z] M (fun r M' => r = none ∧ M' = keepM M due z) := by
  refine cm_of (by decide +kernel) (fun _ => trivial) (Nat.le_of_ble_eq_true rfl) ?_
  refine ev_iload_n dX3_keep_0 rfl ?_
  refine ev_bipush dX3_keep_1 ?_
  refine ev_isub dX3_keep_3 ?_
  refine ev_istore_n dX3_keep_4 (by decide) ?_
  refine ev_iload_n dX3_keep_5 rfl ?_
  refine ev_bipush dX3_keep_6 ?_
  refine ev_icmp_ne (tgt := 29) dX3_keep_8 (by decide) (by omega) (by omega) (fun h1 => ?_) (fun h1 => ?_)
  · refine ev_iload_n dX3_keep_29 rfl ?_
    refine ev_bipush dX3_keep_30 ?_
    refine ev_icmp_ne (tgt := 55) dX3_keep_32 (by decide) (by omega) (by omega) (fun h2 => ?_) (fun h2 => ?_)
    · first | refine ev_aload_n dX3_keep_55 rfl ?_ | refine ev_aloadX_n dX3_keep_55 rfl ?_
      refine ev_gI 2 dX3_keep_56 fX3_36 rfl (by first | rfl | assumption) rfl ?_
      refine ev_if_ne (tgt := 70) dX3_keep_59 (by decide) (by omega) (fun h3 => ?_) (fun h3 => ?_)
      · first | refine ev_aload_n dX3_keep_70 rfl ?_ | refine ev_aloadX_n dX3_keep_70 rfl ?_
        refine ev_iload_n dX3_keep_71 rfl ?_
        refine ev_pI 4 dX3_keep_72 sX3_70 rfl (by first | rfl | assumption) rfl ?_
        exact ev_return dX3_keep_75 rfl (rz ⟨rfl, by unfold keepM; rw [if_neg h1, if_neg h2, if_neg h3]⟩)
      · first | refine ev_aload_n dX3_keep_62 rfl ?_ | refine ev_aloadX_n dX3_keep_62 rfl ?_
        refine ev_iload_n dX3_keep_63 rfl ?_
        refine ev_pI 3 dX3_keep_64 sX3_67 rfl (by first | rfl | assumption) rfl ?_
        refine ev_goto (tgt := 75) dX3_keep_67 (by decide) ?_
        exact ev_return dX3_keep_75 rfl (rz ⟨rfl, by unfold keepM; rw [if_neg h1, if_neg h2, if_pos h3]⟩)
    · first | refine ev_aload_n dX3_keep_35 rfl ?_ | refine ev_aloadX_n dX3_keep_35 rfl ?_
      first | refine ev_aload_n dX3_keep_36 rfl ?_ | refine ev_aloadX_n dX3_keep_36 rfl ?_
      refine ev_gI 6 dX3_keep_37 fX3_89 rfl (by first | rfl | assumption) rfl ?_
      refine ev_if_eq (tgt := 48) dX3_keep_40 (by decide) (by omega) (fun h3 => ?_) (fun h3 => ?_)
      · refine ev_iload_n dX3_keep_48 rfl ?_
        refine ev_pI 5 dX3_keep_49 sX3_73 rfl (by first | rfl | assumption) rfl ?_
        refine ev_goto (tgt := 75) dX3_keep_52 (by decide) ?_
        exact ev_return dX3_keep_75 rfl (rz ⟨rfl, by unfold keepM; rw [if_neg h1, if_pos h2, if_pos h3]⟩)
      · refine ev_iload_n dX3_keep_43 rfl ?_
        refine ev_ineg dX3_keep_44 ?_
        refine ev_goto (tgt := 49) dX3_keep_45 (by decide) ?_
        refine ev_pI 5 dX3_keep_49 sX3_73 rfl (by first | rfl | assumption) rfl ?_
        refine ev_goto (tgt := 75) dX3_keep_52 (by decide) ?_
        exact ev_return dX3_keep_75 rfl (rz ⟨rfl, by unfold keepM; rw [if_neg h1, if_pos h2, if_neg h3]⟩)
  · first | refine ev_aload_n dX3_keep_11 rfl ?_ | refine ev_aloadX_n dX3_keep_11 rfl ?_
    refine ev_iload_n dX3_keep_12 rfl ?_
    refine ev_bipush dX3_keep_13 ?_
    refine ev_icmp_ne (tgt := 22) dX3_keep_15 (by decide) (by omega) (by omega) (fun h2 => ?_) (fun h2 => ?_)
    · refine ev_iconst dX3_keep_22 ?_
      refine ev_pZ 6 dX3_keep_23 sX3_89 rfl (by first | exact Or.inl rfl | exact Or.inr rfl | assumption) (by first | rfl | assumption) rfl ?_
      refine ev_goto (tgt := 75) dX3_keep_26 (by decide) ?_
      exact ev_return dX3_keep_75 rfl (rz ⟨rfl, by unfold keepM; rw [if_pos h1, if_neg h2]⟩)
    · refine ev_iconst dX3_keep_18 ?_
      refine ev_goto (tgt := 23) dX3_keep_19 (by decide) ?_
      refine ev_pZ 6 dX3_keep_23 sX3_89 rfl (by first | exact Or.inl rfl | exact Or.inr rfl | assumption) (by first | rfl | assumption) rfl ?_
      refine ev_goto (tgt := 75) dX3_keep_26 (by decide) ?_
      exact ev_return dX3_keep_75 rfl (rz ⟨rfl, by unfold keepM; rw [if_pos h1, if_pos h2]⟩)
def bgnM (M : Mm) (k : Int) : Mm := upM (upM (upM (upM (upM (upM M 3 1 k) 3 2 0) 3 3 (-1)) 3 4 (-1)) 3 5 0) 3 6 0
def kdOf (z : Int) : Int := sFnd 0 z 0 5
theorem kdOf_rng (z : Int) : -1 ≤ kdOf z ∧ kdOf z ≤ 4 := by
  unfold kdOf
  simp only [sFnd]
  repeat' split
  all_goals omega
theorem c_beginsStep {z : Int} (hz : 1 ≤ z) (hz2 : z ≤ 126) (M : Mm) {n : Nat} (hn : M 4 4 = n) (hn6 : n ≤ 6) (hR : ∀ j, 0 ≤ j → j < 6 → inR (M 5 j)) : Cm mX3_beginsStep [vR 3, vI z] M (fun r M' => (r = some (vI 0) ∧ (kdOf z < 0 ∨ (kdOf z = 4 ∧ M 4 4 ≤ bllM M)) ∧ M' = M) ∨ (r = some (vI 1) ∧ ¬ (kdOf z < 0 ∨ (kdOf z = 4 ∧ M 4 4 ≤ bllM M)) ∧ M' = bgnM M (kdOf z))) := by
  have hb := bll_bd (M 5) n
  have eb : bllM M = bll (M 5) n := by unfold bllM; rw [hn, Int.toNat_natCast]
  have hk := kdOf_rng z
  refine cm_of (by decide +kernel) (fun _ => trivial) (Nat.le_of_ble_eq_true rfl) ?_
  refine ev_ldcT (i := 0) (by decide) rfl dX3_beginsStep_0 ?_
  refine ev_iload_n dX3_beginsStep_2 rfl ?_
  refine ev_i2c dX3_beginsStep_3 (by omega) (by omega) ?_
  refine ev_callX (i := 0) (by decide) (c_indexOf (i := 0) (by decide) (by omega) (by omega) _) dX3_beginsStep_4 tJ0_indexOf_0f7a4.1 (wsg_in 333 (by decide +kernel) (by decide +kernel)) tJ0_indexOf_0f7a4.2.1 tJ0_indexOf_0f7a4.2.2.1 tJ0_indexOf_0f7a4.2.2.2 ⟨⟨Nat.le_of_ble_eq_true rfl, Nat.le_of_ble_eq_true rfl⟩, Nat.le_of_ble_eq_true rfl, Nat.le_of_ble_eq_true rfl⟩ rfl (Nat.le_of_ble_eq_true rfl) ?_
  rintro r K' M' P' ⟨rfl, rfl, rfl, hM'⟩
  rw [hM']
  clear hM' M'
  show Ev mX3_beginsStep _ _ (Option.toList (some (vI (kdOf z))) ++ _) _ _ _ _ _ _
  have yes : ¬ (kdOf z < 0 ∨ (kdOf z = 4 ∧ M 4 4 ≤ bllM M)) → Ev mX3_beginsStep 38 [some (vR 3), some (vI z), some (vI (kdOf z))] [] KK M PP 0 0 (Rz mX3_beginsStep (fun r M' => (r = some (vI 0) ∧ (kdOf z < 0 ∨ (kdOf z = 4 ∧ M 4 4 ≤ bllM M)) ∧ M' = M) ∨ (r = some (vI 1) ∧ ¬ (kdOf z < 0 ∨ (kdOf z = 4 ∧ M 4 4 ≤ bllM M)) ∧ M' = bgnM M (kdOf z)))) := by
    intro hq
    first | refine ev_aload_n dX3_beginsStep_38 rfl ?_ | refine ev_aloadX_n dX3_beginsStep_38 rfl ?_
    refine ev_iload_n dX3_beginsStep_39 rfl ?_
    refine ev_pI 1 dX3_beginsStep_40 sX3_22 rfl (by first | rfl | assumption) rfl ?_
    first | refine ev_aload_n dX3_beginsStep_43 rfl ?_ | refine ev_aloadX_n dX3_beginsStep_43 rfl ?_
    refine ev_iconst dX3_beginsStep_44 ?_
    refine ev_pI 2 dX3_beginsStep_45 sX3_36 rfl (by first | rfl | assumption) rfl ?_
    first | refine ev_aload_n dX3_beginsStep_48 rfl ?_ | refine ev_aloadX_n dX3_beginsStep_48 rfl ?_
    refine ev_iconst dX3_beginsStep_49 ?_
    refine ev_pI 3 dX3_beginsStep_50 sX3_67 rfl (by first | rfl | assumption) rfl ?_
    first | refine ev_aload_n dX3_beginsStep_53 rfl ?_ | refine ev_aloadX_n dX3_beginsStep_53 rfl ?_
    refine ev_iconst dX3_beginsStep_54 ?_
    refine ev_pI 4 dX3_beginsStep_55 sX3_70 rfl (by first | rfl | assumption) rfl ?_
    first | refine ev_aload_n dX3_beginsStep_58 rfl ?_ | refine ev_aloadX_n dX3_beginsStep_58 rfl ?_
    refine ev_iconst dX3_beginsStep_59 ?_
    refine ev_pI 5 dX3_beginsStep_60 sX3_73 rfl (by first | rfl | assumption) rfl ?_
    first | refine ev_aload_n dX3_beginsStep_63 rfl ?_ | refine ev_aloadX_n dX3_beginsStep_63 rfl ?_
    refine ev_iconst dX3_beginsStep_64 ?_
    refine ev_pZ 6 dX3_beginsStep_65 sX3_89 rfl (by first | exact Or.inl rfl | exact Or.inr rfl | assumption) (by first | rfl | assumption) rfl ?_
    refine ev_iconst dX3_beginsStep_68 ?_
    exact ev_ireturn dX3_beginsStep_69 (okR_z rfl (by first | exact Or.inl rfl | exact Or.inr rfl | assumption)) (rz (Or.inr ⟨rfl, hq, rfl⟩))
  refine ev_istore_n dX3_beginsStep_7 (by decide) ?_
  refine ev_iload_n dX3_beginsStep_8 rfl ?_
  refine ev_if_ge (tgt := 14) dX3_beginsStep_9 (by decide) (by omega) (fun h1 => ?_) (fun h1 => ?_)
  · refine ev_iload_n dX3_beginsStep_14 rfl ?_
    refine ev_iconst dX3_beginsStep_15 ?_
    refine ev_icmp_ne (tgt := 38) dX3_beginsStep_16 (by decide) (by omega) (by omega) (fun h2 => ?_) (fun h2 => ?_)
    · exact ev_to (yes (fun q => by rcases q with q | q; omega; exact h2 q.1)) ⟨rfl, rfl, rfl, trivial⟩ rfl rfl rfl rfl
    · first | refine ev_aload_n dX3_beginsStep_19 rfl ?_ | refine ev_aloadX_n dX3_beginsStep_19 rfl ?_
      refine ev_getR dX3_beginsStep_20 fX3_12 rfl (by first | rfl | assumption) (by first | rfl | assumption) ?_
      refine ev_callv (ci := 7) (c_behind isSt4 M hn hn6 hR) dX3_beginsStep_23 tX7_behindLastLoop.1 kX3_86 tX7_behindLastLoop.2.1 tX7_behindLastLoop.2.2.1 rfl (by first | rfl | assumption) tX7_behindLastLoop.2.2.2 ⟨⟨Nat.le_of_ble_eq_true rfl, Nat.le_of_ble_eq_true rfl⟩, Nat.le_of_ble_eq_true rfl, Nat.le_of_ble_eq_true rfl⟩ rfl (Nat.le_of_ble_eq_true rfl) ?_
      rintro r K' M' P' ⟨rfl, rfl, rfl, hM'⟩
      rw [hM']
      clear hM' M'
      simp only [Nat.reduceAdd]
      first | refine ev_aload_n dX3_beginsStep_26 rfl ?_ | refine ev_aloadX_n dX3_beginsStep_26 rfl ?_
      refine ev_getR dX3_beginsStep_27 fX3_12 rfl (by first | rfl | assumption) (by first | rfl | assumption) ?_
      refine ev_gI 4 dX3_beginsStep_30 fX3_18 rfl (by first | rfl | assumption) rfl ?_
      refine ev_icmp_lt (tgt := 38) dX3_beginsStep_33 (by decide) (by omega) (by omega) (fun h3 => ?_) (fun h3 => ?_)
      · exact ev_to (yes (fun q => by rcases q with q | q; omega; have := q.2; omega)) ⟨rfl, rfl, rfl, trivial⟩ rfl rfl rfl rfl
      · refine ev_iconst dX3_beginsStep_36 ?_
        exact ev_ireturn dX3_beginsStep_37 (okR_z rfl (by first | exact Or.inl rfl | exact Or.inr rfl | assumption)) (rz (Or.inl ⟨rfl, Or.inr ⟨h2, by omega⟩, rfl⟩))
  · refine ev_iconst dX3_beginsStep_12 ?_
    exact ev_ireturn dX3_beginsStep_13 (okR_z rfl (by first | exact Or.inl rfl | exact Or.inr rfl | assumption)) (rz (Or.inl ⟨rfl, Or.inl h1, rfl⟩))
theorem c_goesOn {z : Int} (hz : 1 ≤ z) (hz2 : z ≤ 126) (M : Mm) (hn0 : 0 ≤ M 4 4) (hn6 : M 4 4 ≤ 6) : Cm mX3_goesOn [vR 3, vI z] M (fun r M' => (r = some (vI 0) ∧ ¬ (z = 44 ∧ M 4 4 < 6) ∧ M' = M) ∨ (r = some (vI 1) ∧ (z = 44 ∧ M 4 4 < 6) ∧ M' = upM M 3 1 (-1))) := by
  refine cm_of (by decide +kernel) (fun _ => trivial) (Nat.le_of_ble_eq_true rfl) ?_
  refine ev_iload_n dX3_goesOn_0 rfl ?_
  refine ev_bipush dX3_goesOn_1 ?_
  refine ev_icmp_ne (tgt := 18) dX3_goesOn_3 (by decide) (by omega) (by omega) (fun h1 => ?_) (fun h1 => ?_)
  · refine ev_iconst dX3_goesOn_18 ?_
    exact ev_ireturn dX3_goesOn_19 (okR_z rfl (by first | exact Or.inl rfl | exact Or.inr rfl | assumption)) (rz (Or.inl ⟨rfl, fun q => h1 q.1, rfl⟩))
  first | refine ev_aload_n dX3_goesOn_6 rfl ?_ | refine ev_aloadX_n dX3_goesOn_6 rfl ?_
  refine ev_getR dX3_goesOn_7 fX3_12 rfl (by first | rfl | assumption) (by first | rfl | assumption) ?_
  refine ev_gI 4 dX3_goesOn_10 fX3_18 rfl (by first | rfl | assumption) rfl ?_
  refine ev_bipush dX3_goesOn_13 ?_
  refine ev_icmp_lt (tgt := 20) dX3_goesOn_15 (by decide) (by omega) (by omega) (fun h2 => ?_) (fun h2 => ?_)
  · first | refine ev_aload_n dX3_goesOn_20 rfl ?_ | refine ev_aloadX_n dX3_goesOn_20 rfl ?_
    refine ev_iconst dX3_goesOn_21 ?_
    refine ev_pI 1 dX3_goesOn_22 sX3_22 rfl (by first | rfl | assumption) rfl ?_
    refine ev_iconst dX3_goesOn_25 ?_
    exact ev_ireturn dX3_goesOn_26 (okR_z rfl (by first | exact Or.inl rfl | exact Or.inr rfl | assumption)) (rz (Or.inr ⟨rfl, ⟨h1, h2⟩, rfl⟩))
  · refine ev_iconst dX3_goesOn_18 ?_
    exact ev_ireturn dX3_goesOn_19 (okR_z rfl (by first | exact Or.inl rfl | exact Or.inr rfl | assumption)) (rz (Or.inl ⟨rfl, fun q => by have := q.2; omega, rfl⟩))
/-- what a letter makes of the reader: none where it is wrong -/
def rdA (M : Mm) (z : Int) (M' : Mm) : Prop :=
  if M 3 1 = -1 then ¬ (kdOf z < 0 ∨ (kdOf z = 4 ∧ M 4 4 ≤ bllM M)) ∧ M' = bgnM M (kdOf z)
  else if fml (M 3 1) ≤ M 3 2 then (z = 44 ∧ M 4 4 < 6) ∧ M' = upM M 3 1 (-1)
  else fitP M (sCh (fm (M 3 1)) (M 3 2).toNat) z ∧ M' = (if M 3 2 + 1 = fml (M 3 1) then insM (upM (keepM M (sCh (fm (M 3 1)) (M 3 2).toNat) z) 3 2 (M 3 2 + 1)) 4 (M 4 4) (keepM M (sCh (fm (M 3 1)) (M 3 2).toNat) z 3 1) (keepM M (sCh (fm (M 3 1)) (M 3 2).toNat) z 3 3) (keepM M (sCh (fm (M 3 1)) (M 3 2).toNat) z 3 4) (keepM M (sCh (fm (M 3 1)) (M 3 2).toNat) z 3 5) else upM (keepM M (sCh (fm (M 3 1)) (M 3 2).toNat) z) 3 2 (M 3 2 + 1))
/-- the reader's cells as they may stand -/
def rdI (M : Mm) : Prop := ∃ n : Nat, M 4 4 = n ∧ n ≤ 6 ∧ (-1 ≤ M 3 1 ∧ M 3 1 ≤ 4) ∧ (M 3 1 ≠ -1 → 0 ≤ M 3 2 ∧ M 3 2 ≤ fml (M 3 1)) ∧ ((M 3 1 = -1 ∨ M 3 2 < fml (M 3 1)) → n ≤ 5) ∧ (∀ j, 0 ≤ j → j < 6 → (-1000 ≤ M 5 j ∧ M 5 j ≤ 1000) ∧ (-1000 ≤ M 6 j ∧ M 6 j ≤ 1000)) ∧ (-1000 ≤ M 3 3 ∧ M 3 3 ≤ 1000) ∧ (-1000 ≤ M 3 4 ∧ M 3 4 ≤ 1000) ∧ (-1000 ≤ M 3 5 ∧ M 3 5 ≤ 1000) ∧ (M 3 6 = 0 ∨ M 3 6 = 1)
theorem due_ok : ∀ i, i < 6 → 0 < i → ∀ j, j < s_len.getD i 0 → (sCh i j = 120 ∨ sCh i j = 110 ∨ sCh i j = 100 ∨ sCh i j = 107 ∨ sCh i j = 43) := by decide
theorem fm_pos (kd : Int) : 0 < fm kd := by
  unfold fm
  repeat' split
  all_goals omega
theorem keep_o {M : Mm} {due z : Int} {q : Nat} (h : q ≠ 3) : keepM M due z q = M q := by
  unfold keepM
  repeat' split
  all_goals (rw [upM_rw, rwc_ne h])
theorem keep_1 {M : Mm} {due z : Int} : keepM M due z 3 1 = M 3 1 ∧ keepM M due z 3 2 = M 3 2 := by
  unfold keepM
  repeat' split
  all_goals exact ⟨upM_n (Or.inr (by decide)), upM_n (Or.inr (by decide))⟩
theorem c_accepts {z : Int} (hz : 1 ≤ z) (hz2 : z ≤ 126) (M : Mm) (hI : rdI M) : Cm mX3_accepts [vR 3, vI z] M (fun r M' => (r = some (vI 0) ∧ (∀ M2, ¬ rdA M z M2) ∧ M' = M) ∨ (r = some (vI 1) ∧ rdA M z M')) := by
  obtain ⟨n, i1, i2, i3, i4, i5, i6, i7, i8, i9, i10⟩ := id hI
  have hR5 : ∀ j, 0 ≤ j → j < 6 → inR (M 5 j) := fun j h1 h2 => by have := (i6 j h1 h2).1; omega
  refine cm_of (by decide +kernel) (fun _ => trivial) (Nat.le_of_ble_eq_true rfl) ?_
  first | refine ev_aload_n dX3_accepts_0 rfl ?_ | refine ev_aloadX_n dX3_accepts_0 rfl ?_
  refine ev_gI 1 dX3_accepts_1 fX3_22 rfl (by first | rfl | assumption) rfl ?_
  refine ev_iconst dX3_accepts_4 ?_
  refine ev_icmp_ne (tgt := 14) dX3_accepts_5 (by decide) (by omega) (by omega) (fun h1 => ?_) (fun h1 => ?_)
  · -- within a step
    have hl := sl5 (fm (M 3 1)) (fm_lt _)
    have hp := i4 h1
    have hfl : fml (M 3 1) = ((s_len.getD (fm (M 3 1)) 0 : Nat) : Int) := rfl
    first | refine ev_aload_n dX3_accepts_14 rfl ?_ | refine ev_aloadX_n dX3_accepts_14 rfl ?_
    refine ev_gI 1 dX3_accepts_15 fX3_22 rfl (by first | rfl | assumption) rfl ?_
    refine ev_calls (c_formOf i3.1 i3.2 _) dX3_accepts_18 tX3_formOf.1 kX3_39 tX3_formOf.2.1 tX3_formOf.2.2 ⟨⟨Nat.le_of_ble_eq_true rfl, Nat.le_of_ble_eq_true rfl⟩, Nat.le_of_ble_eq_true rfl, Nat.le_of_ble_eq_true rfl⟩ rfl (Nat.le_of_ble_eq_true rfl) ?_
    rintro r K' M' P' ⟨rfl, rfl, rfl, hM'⟩
    rw [hM']
    clear hM' M'
    refine ev_astoreX (j := 2) dX3_accepts_21 (by decide) (by decide) ?_
    first | refine ev_aload_n dX3_accepts_22 rfl ?_ | refine ev_aloadX_n dX3_accepts_22 rfl ?_
    refine ev_gI 2 dX3_accepts_23 fX3_36 rfl (by first | rfl | assumption) rfl ?_
    refine ev_aloadX_n dX3_accepts_26 rfl ?_
    refine ev_callX (i := fm (M 3 1)) (fm_lt _) (c_length (fm_lt _) _) dX3_accepts_27 tJ0_length_8abf5.1 (wsg_in 431 (by decide +kernel) (by decide +kernel)) tJ0_length_8abf5.2.1 tJ0_length_8abf5.2.2.1 tJ0_length_8abf5.2.2.2 ⟨⟨Nat.le_of_ble_eq_true rfl, Nat.le_of_ble_eq_true rfl⟩, Nat.le_of_ble_eq_true rfl, Nat.le_of_ble_eq_true rfl⟩ rfl (Nat.le_of_ble_eq_true rfl) ?_
    rintro r K' M' P' ⟨rfl, rfl, rfl, hM'⟩
    rw [hM']
    clear hM' M'
    refine ev_icmp_lt (tgt := 39) dX3_accepts_30 (by decide) (by omega) (by omega) (fun h2 => ?_) (fun h2 => ?_)
    · have hdue := due_ok (fm (M 3 1)) (fm_lt _) (fm_pos _) (M 3 2).toNat (by omega)
      refine ev_aloadX_n dX3_accepts_39 rfl ?_
      first | refine ev_aload_n dX3_accepts_40 rfl ?_ | refine ev_aloadX_n dX3_accepts_40 rfl ?_
      refine ev_gI 2 dX3_accepts_41 fX3_36 rfl (by first | rfl | assumption) rfl ?_
      refine ev_callX (i := fm (M 3 1)) (fm_lt _) (c_charAt (fm_lt _) hp.1 h2 _) dX3_accepts_44 tJ0_charAt_5068e.1 (wsg_in 436 (by decide +kernel) (by decide +kernel)) tJ0_charAt_5068e.2.1 tJ0_charAt_5068e.2.2.1 tJ0_charAt_5068e.2.2.2 ⟨⟨Nat.le_of_ble_eq_true rfl, Nat.le_of_ble_eq_true rfl⟩, Nat.le_of_ble_eq_true rfl, Nat.le_of_ble_eq_true rfl⟩ rfl (Nat.le_of_ble_eq_true rfl) ?_
      rintro r K' M' P' ⟨rfl, rfl, rfl, hM'⟩
      rw [hM']
      clear hM' M'
      have hA : ∀ M2, rdA M z M2 ↔ fitP M (sCh (fm (M 3 1)) (M 3 2).toNat) z ∧ M2 = (if M 3 2 + 1 = fml (M 3 1) then insM (upM (keepM M (sCh (fm (M 3 1)) (M 3 2).toNat) z) 3 2 (M 3 2 + 1)) 4 (M 4 4) (keepM M (sCh (fm (M 3 1)) (M 3 2).toNat) z 3 1) (keepM M (sCh (fm (M 3 1)) (M 3 2).toNat) z 3 3) (keepM M (sCh (fm (M 3 1)) (M 3 2).toNat) z 3 4) (keepM M (sCh (fm (M 3 1)) (M 3 2).toNat) z 3 5) else upM (keepM M (sCh (fm (M 3 1)) (M 3 2).toNat) z) 3 2 (M 3 2 + 1)) := by
        intro M2
        unfold rdA
        rw [if_neg h1, if_neg (by omega)]
      generalize hdu : sCh (fm (M 3 1)) (M 3 2).toNat = due at *
      refine ev_istore_n dX3_accepts_47 (by decide) ?_
      first | refine ev_aload_n dX3_accepts_48 rfl ?_ | refine ev_aloadX_n dX3_accepts_48 rfl ?_
      refine ev_iload_n dX3_accepts_49 rfl ?_
      refine ev_iload_n dX3_accepts_50 rfl ?_
      refine ev_callv (ci := 3) (c_fits hdue hz hz2 M i1 i2 hR5) dX3_accepts_51 tX3_fits.1 kX3_59 tX3_fits.2.1 tX3_fits.2.2.1 rfl (by first | rfl | assumption) tX3_fits.2.2.2 ⟨⟨Nat.le_of_ble_eq_true rfl, Nat.le_of_ble_eq_true rfl⟩, Nat.le_of_ble_eq_true rfl, Nat.le_of_ble_eq_true rfl⟩ rfl (Nat.le_of_ble_eq_true rfl) ?_
      rintro r K' M8 P' ⟨rfl, rfl, ⟨v, rfl, hv1, hv2⟩, hM8⟩
      rw [hM8]
      clear hM8 M8
      refine ev_if_ne (tgt := 59) dX3_accepts_54 (by decide) (by omega) (fun h3 => ?_) (fun h3 => ?_)
      · first | refine ev_aload_n dX3_accepts_59 rfl ?_ | refine ev_aloadX_n dX3_accepts_59 rfl ?_
        refine ev_iload_n dX3_accepts_60 rfl ?_
        refine ev_iload_n dX3_accepts_61 rfl ?_
        refine ev_callv (ci := 3) (c_keep hdue hz hz2 M i10 (by omega)) dX3_accepts_62 tX3_keep.1 kX3_63 tX3_keep.2.1 tX3_keep.2.2.1 rfl (by first | rfl | assumption) tX3_keep.2.2.2 ⟨⟨Nat.le_of_ble_eq_true rfl, Nat.le_of_ble_eq_true rfl⟩, Nat.le_of_ble_eq_true rfl, Nat.le_of_ble_eq_true rfl⟩ rfl (Nat.le_of_ble_eq_true rfl) ?_
        rintro r K' M' P' ⟨rfl, rfl, rfl, hM'⟩
        rw [hM']
        clear hM' M'
        have hfit : fitP M due z := hv2.mp (by omega)
        obtain ⟨k1, k2⟩ := keep_1 (M := M) (due := due) (z := z)
        have k4 : keepM M due z 4 = M 4 := keep_o (by decide)
        have k5 : keepM M due z 5 = M 5 := keep_o (by decide)
        have k6 : keepM M due z 6 = M 6 := keep_o (by decide)
        generalize keepM M due z = Mk at *
        first | refine ev_aload_n dX3_accepts_65 rfl ?_ | refine ev_aloadX_n dX3_accepts_65 rfl ?_
        refine ev_dup dX3_accepts_66 ?_
        refine ev_gI 2 dX3_accepts_67 fX3_36 rfl (by first | rfl | assumption) rfl ?_
        refine ev_iconst dX3_accepts_70 ?_
        refine ev_iadd dX3_accepts_71 ?_
        refine ev_pI 2 dX3_accepts_72 sX3_36 rfl (by first | rfl | assumption) rfl ?_
        first | refine ev_aload_n dX3_accepts_75 rfl ?_ | refine ev_aloadX_n dX3_accepts_75 rfl ?_
        rw [k2]
        refine ev_gI 2 dX3_accepts_76 fX3_36 rfl (by first | rfl | assumption) rfl ?_
        have u2 : upM Mk 3 2 (M 3 2 + 1) 3 2 = M 3 2 + 1 := upM_s _ _ _ _
        rw [u2]
        refine ev_aloadX_n dX3_accepts_79 rfl ?_
        refine ev_callX (i := fm (M 3 1)) (fm_lt _) (c_length (fm_lt _) _) dX3_accepts_80 tJ0_length_8abf5.1 (wsg_in 431 (by decide +kernel) (by decide +kernel)) tJ0_length_8abf5.2.1 tJ0_length_8abf5.2.2.1 tJ0_length_8abf5.2.2.2 ⟨⟨Nat.le_of_ble_eq_true rfl, Nat.le_of_ble_eq_true rfl⟩, Nat.le_of_ble_eq_true rfl, Nat.le_of_ble_eq_true rfl⟩ rfl (Nat.le_of_ble_eq_true rfl) ?_
        rintro r K' M' P' ⟨rfl, rfl, rfl, hM'⟩
        rw [hM']
        clear hM' M'
        refine ev_icmp_ne (tgt := 116) dX3_accepts_83 (by decide) (by omega) (by omega) (fun h4 => ?_) (fun h4 => ?_)
        · refine ev_iconst dX3_accepts_116 ?_
          exact ev_ireturn dX3_accepts_117 (okR_z rfl (by first | exact Or.inl rfl | exact Or.inr rfl | assumption)) (rz (Or.inr ⟨rfl, (hA _).mpr ⟨hfit, by rw [if_neg h4]⟩⟩))
        · have g4 : upM Mk 3 2 (M 3 2 + 1) 4 4 = M 4 4 := by rw [upM_n (Or.inl (by decide)), k4]
          have g31 : upM Mk 3 2 (M 3 2 + 1) 3 1 = Mk 3 1 := upM_n (Or.inr (by decide))
          have g33 : upM Mk 3 2 (M 3 2 + 1) 3 3 = Mk 3 3 := upM_n (Or.inr (by decide))
          have g34 : upM Mk 3 2 (M 3 2 + 1) 3 4 = Mk 3 4 := upM_n (Or.inr (by decide))
          have g35 : upM Mk 3 2 (M 3 2 + 1) 3 5 = Mk 3 5 := upM_n (Or.inr (by decide))
          have g5 : upM Mk 3 2 (M 3 2 + 1) 5 = M 5 := by rw [upM_rw, rwc_ne (by decide), k5]
          have g6 : upM Mk 3 2 (M 3 2 + 1) 6 = M 6 := by rw [upM_rw, rwc_ne (by decide), k6]
          have n5 := i5 (Or.inr h2)
          first | refine ev_aload_n dX3_accepts_86 rfl ?_ | refine ev_aloadX_n dX3_accepts_86 rfl ?_
          refine ev_getR dX3_accepts_87 fX3_12 rfl (by first | rfl | assumption) (by first | rfl | assumption) ?_
          first | refine ev_aload_n dX3_accepts_90 rfl ?_ | refine ev_aloadX_n dX3_accepts_90 rfl ?_
          refine ev_getR dX3_accepts_91 fX3_12 rfl (by first | rfl | assumption) (by first | rfl | assumption) ?_
          refine ev_gI 4 dX3_accepts_94 fX3_18 rfl (by first | rfl | assumption) rfl ?_
          first | refine ev_aload_n dX3_accepts_97 rfl ?_ | refine ev_aloadX_n dX3_accepts_97 rfl ?_
          refine ev_gI 1 dX3_accepts_98 fX3_22 rfl (by first | rfl | assumption) rfl ?_
          first | refine ev_aload_n dX3_accepts_101 rfl ?_ | refine ev_aloadX_n dX3_accepts_101 rfl ?_
          refine ev_gI 3 dX3_accepts_102 fX3_67 rfl (by first | rfl | assumption) rfl ?_
          first | refine ev_aload_n dX3_accepts_105 rfl ?_ | refine ev_aloadX_n dX3_accepts_105 rfl ?_
          refine ev_gI 4 dX3_accepts_106 fX3_70 rfl (by first | rfl | assumption) rfl ?_
          first | refine ev_aload_n dX3_accepts_109 rfl ?_ | refine ev_aloadX_n dX3_accepts_109 rfl ?_
          refine ev_gI 5 dX3_accepts_110 fX3_73 rfl (by first | rfl | assumption) rfl ?_
          rw [g4, g31, g33, g34, g35]
          refine ev_callv (ci := 7) (c_insert isSt4 _ (by rw [g4]; omega) (by rw [g4]; omega) (by omega) (by rw [g4]; omega) (by show ∀ j, 0 ≤ j → j < 6 → inR (upM Mk 3 2 (M 3 2 + 1) 5 j); rw [g5]; exact hR5) (by show ∀ j, 0 ≤ j → j < 6 → -1000 ≤ upM Mk 3 2 (M 3 2 + 1) 6 j ∧ upM Mk 3 2 (M 3 2 + 1) 6 j ≤ 1000; rw [g6]; exact fun j q1 q2 => (i6 j q1 q2).2)) dX3_accepts_113 tX7_insert.1 kX3_76 tX7_insert.2.1 tX7_insert.2.2.1 rfl (by first | rfl | assumption) tX7_insert.2.2.2 ⟨⟨Nat.le_of_ble_eq_true rfl, Nat.le_of_ble_eq_true rfl⟩, Nat.le_of_ble_eq_true rfl, Nat.le_of_ble_eq_true rfl⟩ rfl (Nat.le_of_ble_eq_true rfl) ?_
          rintro r K' M' P' ⟨rfl, rfl, rfl, hM'⟩
          rw [hM']
          clear hM' M'
          refine ev_iconst dX3_accepts_116 ?_
          exact ev_ireturn dX3_accepts_117 (okR_z rfl (by first | exact Or.inl rfl | exact Or.inr rfl | assumption)) (rz (Or.inr ⟨rfl, (hA _).mpr ⟨hfit, by rw [if_pos h4]⟩⟩))
      · refine ev_iconst dX3_accepts_57 ?_
        exact ev_ireturn dX3_accepts_58 (okR_z rfl (by first | exact Or.inl rfl | exact Or.inr rfl | assumption)) (rz (Or.inl ⟨rfl, fun M2 q => by have := hv2.mpr ((hA M2).mp q).1; omega, rfl⟩))
    · first | refine ev_aload_n dX3_accepts_33 rfl ?_ | refine ev_aloadX_n dX3_accepts_33 rfl ?_
      refine ev_iload_n dX3_accepts_34 rfl ?_
      refine ev_callv (ci := 3) (c_goesOn hz hz2 M (by omega) (by omega)) dX3_accepts_35 tX3_goesOn.1 kX3_52 tX3_goesOn.2.1 tX3_goesOn.2.2.1 rfl (by first | rfl | assumption) tX3_goesOn.2.2.2 ⟨⟨Nat.le_of_ble_eq_true rfl, Nat.le_of_ble_eq_true rfl⟩, Nat.le_of_ble_eq_true rfl, Nat.le_of_ble_eq_true rfl⟩ rfl (Nat.le_of_ble_eq_true rfl) ?_
      rintro r K' M8 P' ⟨rfl, rfl, hG⟩
      have hA : ∀ M2, rdA M z M2 ↔ (z = 44 ∧ M 4 4 < 6) ∧ M2 = upM M 3 1 (-1) := by
        intro M2
        unfold rdA
        rw [if_neg h1, if_pos (by omega)]
      rcases hG with ⟨rfl, q1, rfl⟩ | ⟨rfl, q1, q2⟩
      · exact ev_ireturn dX3_accepts_38 (okR_z rfl (by first | exact Or.inl rfl | exact Or.inr rfl | assumption)) (rz (Or.inl ⟨rfl, fun M2 q => q1 ((hA M2).mp q).1, rfl⟩))
      · exact ev_ireturn dX3_accepts_38 (okR_z rfl (by first | exact Or.inl rfl | exact Or.inr rfl | assumption)) (rz (Or.inr ⟨rfl, (hA _).mpr ⟨q1, q2⟩⟩))
  · first | refine ev_aload_n dX3_accepts_8 rfl ?_ | refine ev_aloadX_n dX3_accepts_8 rfl ?_
    refine ev_iload_n dX3_accepts_9 rfl ?_
    refine ev_callv (ci := 3) (c_beginsStep hz hz2 M i1 i2 hR5) dX3_accepts_10 tX3_beginsStep.1 kX3_49 tX3_beginsStep.2.1 tX3_beginsStep.2.2.1 rfl (by first | rfl | assumption) tX3_beginsStep.2.2.2 ⟨⟨Nat.le_of_ble_eq_true rfl, Nat.le_of_ble_eq_true rfl⟩, Nat.le_of_ble_eq_true rfl, Nat.le_of_ble_eq_true rfl⟩ rfl (Nat.le_of_ble_eq_true rfl) ?_
    rintro r K' M8 P' ⟨rfl, rfl, hG⟩
    have hA : ∀ M2, rdA M z M2 ↔ ¬ (kdOf z < 0 ∨ (kdOf z = 4 ∧ M 4 4 ≤ bllM M)) ∧ M2 = bgnM M (kdOf z) := by
      intro M2
      unfold rdA
      rw [if_pos h1]
    rcases hG with ⟨rfl, q1, rfl⟩ | ⟨rfl, q1, q2⟩
    · exact ev_ireturn dX3_accepts_13 (okR_z rfl (by first | exact Or.inl rfl | exact Or.inr rfl | assumption)) (rz (Or.inl ⟨rfl, fun M2 q => ((hA M2).mp q).1 q1, rfl⟩))
    · exact ev_ireturn dX3_accepts_13 (okR_z rfl (by first | exact Or.inl rfl | exact Or.inr rfl | assumption)) (rz (Or.inr ⟨rfl, (hA _).mpr ⟨q1, q2⟩⟩))
