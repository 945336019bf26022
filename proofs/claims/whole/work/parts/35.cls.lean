/-! ===== SumBounds: the small ones ===== -/
theorem c_isStep {x : Int} (hx : inR x) (M : Mm) (h1 : inR (M 9 4)) : Cm mX8_isStep [vR 0, vI x] M (fun r M' => yn (0 ≤ x ∧ x < M 9 4) r ∧ M' = M) := by
  refine cm_of (by decide +kernel) (fun _ => trivial) (Nat.le_of_ble_eq_true rfl) ?_
  refine ev_iload_n dX8_isStep_0 rfl ?_
  refine ev_if_lt (tgt := 19) dX8_isStep_1 (by decide) (by omega) (fun hb1 => ?_) (fun hb1 => ?_)
  · refine ev_iconst dX8_isStep_19 ?_
    exact ev_ireturn dX8_isStep_20 (okR_z rfl (by first | exact Or.inl rfl | exact Or.inr rfl | assumption)) (rz (by first | exact ⟨yn_1 (by first | assumption | omega), rfl⟩ | exact ⟨yn_0 (by first | assumption | omega), rfl⟩))
  · refine ev_iload_n dX8_isStep_4 rfl ?_
    first | refine ev_aload_n dX8_isStep_5 rfl ?_ | refine ev_aloadX_n dX8_isStep_5 rfl ?_
    refine ev_getR dX8_isStep_6 fX8_26 rfl (by first | rfl | assumption) (by first | rfl | assumption) ?_
    refine ev_gI 4 dX8_isStep_9 fX8_105 rfl (by first | rfl | assumption) rfl ?_
    refine ev_icmp_ge (tgt := 19) dX8_isStep_12 (by decide) (by omega) (by omega) (fun hb12 => ?_) (fun hb12 => ?_)
    · refine ev_iconst dX8_isStep_19 ?_
      exact ev_ireturn dX8_isStep_20 (okR_z rfl (by first | exact Or.inl rfl | exact Or.inr rfl | assumption)) (rz (by first | exact ⟨yn_1 (by first | assumption | omega), rfl⟩ | exact ⟨yn_0 (by first | assumption | omega), rfl⟩))
    · refine ev_iconst dX8_isStep_15 ?_
      refine ev_goto (tgt := 20) dX8_isStep_16 (by decide) ?_
      exact ev_ireturn dX8_isStep_20 (okR_z rfl (by first | exact Or.inl rfl | exact Or.inr rfl | assumption)) (rz (by first | exact ⟨yn_1 (by first | assumption | omega), rfl⟩ | exact ⟨yn_0 (by first | assumption | omega), rfl⟩))
theorem c_hasShape {x : Int} (hx : inR x) (M : Mm) (h1 : inR (M 9 4)) : Cm mX8_hasShape [vR 0, vI x] M (fun r M' => yn (0 < M 9 4 ∧ 0 ≤ x ∧ x ≤ M 9 4) r ∧ M' = M) := by
  refine cm_of (by decide +kernel) (fun _ => trivial) (Nat.le_of_ble_eq_true rfl) ?_
  first | refine ev_aload_n dX8_hasShape_0 rfl ?_ | refine ev_aloadX_n dX8_hasShape_0 rfl ?_
  refine ev_getR dX8_hasShape_1 fX8_26 rfl (by first | rfl | assumption) (by first | rfl | assumption) ?_
  refine ev_gI 4 dX8_hasShape_4 fX8_105 rfl (by first | rfl | assumption) rfl ?_
  refine ev_if_le (tgt := 29) dX8_hasShape_7 (by decide) (by omega) (fun hb7 => ?_) (fun hb7 => ?_)
  · refine ev_iconst dX8_hasShape_29 ?_
    exact ev_ireturn dX8_hasShape_30 (okR_z rfl (by first | exact Or.inl rfl | exact Or.inr rfl | assumption)) (rz (by first | exact ⟨yn_1 (by first | assumption | omega), rfl⟩ | exact ⟨yn_0 (by first | assumption | omega), rfl⟩))
  · refine ev_iload_n dX8_hasShape_10 rfl ?_
    refine ev_if_lt (tgt := 29) dX8_hasShape_11 (by decide) (by omega) (fun hb11 => ?_) (fun hb11 => ?_)
    · refine ev_iconst dX8_hasShape_29 ?_
      exact ev_ireturn dX8_hasShape_30 (okR_z rfl (by first | exact Or.inl rfl | exact Or.inr rfl | assumption)) (rz (by first | exact ⟨yn_1 (by first | assumption | omega), rfl⟩ | exact ⟨yn_0 (by first | assumption | omega), rfl⟩))
    · refine ev_iload_n dX8_hasShape_14 rfl ?_
      first | refine ev_aload_n dX8_hasShape_15 rfl ?_ | refine ev_aloadX_n dX8_hasShape_15 rfl ?_
      refine ev_getR dX8_hasShape_16 fX8_26 rfl (by first | rfl | assumption) (by first | rfl | assumption) ?_
      refine ev_gI 4 dX8_hasShape_19 fX8_105 rfl (by first | rfl | assumption) rfl ?_
      refine ev_icmp_gt (tgt := 29) dX8_hasShape_22 (by decide) (by omega) (by omega) (fun hb22 => ?_) (fun hb22 => ?_)
      · refine ev_iconst dX8_hasShape_29 ?_
        exact ev_ireturn dX8_hasShape_30 (okR_z rfl (by first | exact Or.inl rfl | exact Or.inr rfl | assumption)) (rz (by first | exact ⟨yn_1 (by first | assumption | omega), rfl⟩ | exact ⟨yn_0 (by first | assumption | omega), rfl⟩))
      · refine ev_iconst dX8_hasShape_25 ?_
        refine ev_goto (tgt := 30) dX8_hasShape_26 (by decide) ?_
        exact ev_ireturn dX8_hasShape_30 (okR_z rfl (by first | exact Or.inl rfl | exact Or.inr rfl | assumption)) (rz (by first | exact ⟨yn_1 (by first | assumption | omega), rfl⟩ | exact ⟨yn_0 (by first | assumption | omega), rfl⟩))
theorem c_isKind {x : Int} (hx : inR x) (M : Mm) : Cm mX8_isKind [vI x] M (fun r M' => yn (0 ≤ x ∧ x < 5) r ∧ M' = M) := by
  refine cm_of (by decide +kernel) (fun _ => trivial) (Nat.le_of_ble_eq_true rfl) ?_
  refine ev_iload_n dX8_isKind_0 rfl ?_
  refine ev_if_lt (tgt := 13) dX8_isKind_1 (by decide) (by omega) (fun hb1 => ?_) (fun hb1 => ?_)
  · refine ev_iconst dX8_isKind_13 ?_
    exact ev_ireturn dX8_isKind_14 (okR_z rfl (by first | exact Or.inl rfl | exact Or.inr rfl | assumption)) (rz (by first | exact ⟨yn_1 (by first | assumption | omega), rfl⟩ | exact ⟨yn_0 (by first | assumption | omega), rfl⟩))
  · refine ev_iload_n dX8_isKind_4 rfl ?_
    refine ev_iconst dX8_isKind_5 ?_
    refine ev_icmp_ge (tgt := 13) dX8_isKind_6 (by decide) (by omega) (by omega) (fun hb6 => ?_) (fun hb6 => ?_)
    · refine ev_iconst dX8_isKind_13 ?_
      exact ev_ireturn dX8_isKind_14 (okR_z rfl (by first | exact Or.inl rfl | exact Or.inr rfl | assumption)) (rz (by first | exact ⟨yn_1 (by first | assumption | omega), rfl⟩ | exact ⟨yn_0 (by first | assumption | omega), rfl⟩))
    · refine ev_iconst dX8_isKind_9 ?_
      refine ev_goto (tgt := 14) dX8_isKind_10 (by decide) ?_
      exact ev_ireturn dX8_isKind_14 (okR_z rfl (by first | exact Or.inl rfl | exact Or.inr rfl | assumption)) (rz (by first | exact ⟨yn_1 (by first | assumption | omega), rfl⟩ | exact ⟨yn_0 (by first | assumption | omega), rfl⟩))
theorem c_isNumber {x : Int} (hx : inR x) (M : Mm) : Cm mX8_isNumber [vI x] M (fun r M' => yn (-8 ≤ x ∧ x ≤ 8) r ∧ M' = M) := by
  refine cm_of (by decide +kernel) (fun _ => trivial) (Nat.le_of_ble_eq_true rfl) ?_
  refine ev_iload_n dX8_isNumber_0 rfl ?_
  refine ev_bipush dX8_isNumber_1 ?_
  refine ev_icmp_lt (tgt := 16) dX8_isNumber_3 (by decide) (by omega) (by omega) (fun hb3 => ?_) (fun hb3 => ?_)
  · refine ev_iconst dX8_isNumber_16 ?_
    exact ev_ireturn dX8_isNumber_17 (okR_z rfl (by first | exact Or.inl rfl | exact Or.inr rfl | assumption)) (rz (by first | exact ⟨yn_1 (by first | assumption | omega), rfl⟩ | exact ⟨yn_0 (by first | assumption | omega), rfl⟩))
  · refine ev_iload_n dX8_isNumber_6 rfl ?_
    refine ev_bipush dX8_isNumber_7 ?_
    refine ev_icmp_gt (tgt := 16) dX8_isNumber_9 (by decide) (by omega) (by omega) (fun hb9 => ?_) (fun hb9 => ?_)
    · refine ev_iconst dX8_isNumber_16 ?_
      exact ev_ireturn dX8_isNumber_17 (okR_z rfl (by first | exact Or.inl rfl | exact Or.inr rfl | assumption)) (rz (by first | exact ⟨yn_1 (by first | assumption | omega), rfl⟩ | exact ⟨yn_0 (by first | assumption | omega), rfl⟩))
    · refine ev_iconst dX8_isNumber_12 ?_
      refine ev_goto (tgt := 17) dX8_isNumber_13 (by decide) ?_
      exact ev_ireturn dX8_isNumber_17 (okR_z rfl (by first | exact Or.inl rfl | exact Or.inr rfl | assumption)) (rz (by first | exact ⟨yn_1 (by first | assumption | omega), rfl⟩ | exact ⟨yn_0 (by first | assumption | omega), rfl⟩))
theorem c_isBy {x : Int} (hx : inR x) (M : Mm) : Cm mX8_isBy [vI x] M (fun r M' => yn (-9 ≤ x ∧ x ≤ 9) r ∧ M' = M) := by
  refine cm_of (by decide +kernel) (fun _ => trivial) (Nat.le_of_ble_eq_true rfl) ?_
  refine ev_iload_n dX8_isBy_0 rfl ?_
  refine ev_bipush dX8_isBy_1 ?_
  refine ev_icmp_lt (tgt := 16) dX8_isBy_3 (by decide) (by omega) (by omega) (fun hb3 => ?_) (fun hb3 => ?_)
  · refine ev_iconst dX8_isBy_16 ?_
    exact ev_ireturn dX8_isBy_17 (okR_z rfl (by first | exact Or.inl rfl | exact Or.inr rfl | assumption)) (rz (by first | exact ⟨yn_1 (by first | assumption | omega), rfl⟩ | exact ⟨yn_0 (by first | assumption | omega), rfl⟩))
  · refine ev_iload_n dX8_isBy_6 rfl ?_
    refine ev_bipush dX8_isBy_7 ?_
    refine ev_icmp_gt (tgt := 16) dX8_isBy_9 (by decide) (by omega) (by omega) (fun hb9 => ?_) (fun hb9 => ?_)
    · refine ev_iconst dX8_isBy_16 ?_
      exact ev_ireturn dX8_isBy_17 (okR_z rfl (by first | exact Or.inl rfl | exact Or.inr rfl | assumption)) (rz (by first | exact ⟨yn_1 (by first | assumption | omega), rfl⟩ | exact ⟨yn_0 (by first | assumption | omega), rfl⟩))
    · refine ev_iconst dX8_isBy_12 ?_
      refine ev_goto (tgt := 17) dX8_isBy_13 (by decide) ?_
      exact ev_ireturn dX8_isBy_17 (okR_z rfl (by first | exact Or.inl rfl | exact Or.inr rfl | assumption)) (rz (by first | exact ⟨yn_1 (by first | assumption | omega), rfl⟩ | exact ⟨yn_0 (by first | assumption | omega), rfl⟩))
theorem c_hasSecond {x : Int} (hx : inR x) (M : Mm) : Cm mX8_hasSecond [vI x] M (fun r M' => yn (x = 0 ∨ x = 1) r ∧ M' = M) := by
  refine cm_of (by decide +kernel) (fun _ => trivial) (Nat.le_of_ble_eq_true rfl) ?_
  refine ev_iload_n dX8_hasSecond_0 rfl ?_
  refine ev_if_eq (tgt := 9) dX8_hasSecond_1 (by decide) (by omega) (fun hb1 => ?_) (fun hb1 => ?_)
  · refine ev_iconst dX8_hasSecond_9 ?_
    refine ev_goto (tgt := 14) dX8_hasSecond_10 (by decide) ?_
    exact ev_ireturn dX8_hasSecond_14 (okR_z rfl (by first | exact Or.inl rfl | exact Or.inr rfl | assumption)) (rz (by first | exact ⟨yn_1 (by first | assumption | omega), rfl⟩ | exact ⟨yn_0 (by first | assumption | omega), rfl⟩))
  · refine ev_iload_n dX8_hasSecond_4 rfl ?_
    refine ev_iconst dX8_hasSecond_5 ?_
    refine ev_icmp_ne (tgt := 13) dX8_hasSecond_6 (by decide) (by omega) (by omega) (fun hb6 => ?_) (fun hb6 => ?_)
    · refine ev_iconst dX8_hasSecond_13 ?_
      exact ev_ireturn dX8_hasSecond_14 (okR_z rfl (by first | exact Or.inl rfl | exact Or.inr rfl | assumption)) (rz (by first | exact ⟨yn_1 (by first | assumption | omega), rfl⟩ | exact ⟨yn_0 (by first | assumption | omega), rfl⟩))
    · refine ev_iconst dX8_hasSecond_9 ?_
      refine ev_goto (tgt := 14) dX8_hasSecond_10 (by decide) ?_
      exact ev_ireturn dX8_hasSecond_14 (okR_z rfl (by first | exact Or.inl rfl | exact Or.inr rfl | assumption)) (rz (by first | exact ⟨yn_1 (by first | assumption | omega), rfl⟩ | exact ⟨yn_0 (by first | assumption | omega), rfl⟩))
theorem c_hasNumber {x : Int} (hx : inR x) (M : Mm) : Cm mX8_hasNumber [vI x] M (fun r M' => yn (x = 0 ∨ x = 1 ∨ x = 3) r ∧ M' = M) := by
  refine cm_of (by decide +kernel) (fun _ => trivial) (Nat.le_of_ble_eq_true rfl) ?_
  refine ev_iload_n dX8_hasNumber_0 rfl ?_
  refine ev_if_eq (tgt := 14) dX8_hasNumber_1 (by decide) (by omega) (fun hb1 => ?_) (fun hb1 => ?_)
  · refine ev_iconst dX8_hasNumber_14 ?_
    refine ev_goto (tgt := 19) dX8_hasNumber_15 (by decide) ?_
    exact ev_ireturn dX8_hasNumber_19 (okR_z rfl (by first | exact Or.inl rfl | exact Or.inr rfl | assumption)) (rz (by first | exact ⟨yn_1 (by first | assumption | omega), rfl⟩ | exact ⟨yn_0 (by first | assumption | omega), rfl⟩))
  · refine ev_iload_n dX8_hasNumber_4 rfl ?_
    refine ev_iconst dX8_hasNumber_5 ?_
    refine ev_icmp_eq (tgt := 14) dX8_hasNumber_6 (by decide) (by omega) (by omega) (fun hb6 => ?_) (fun hb6 => ?_)
    · refine ev_iconst dX8_hasNumber_14 ?_
      refine ev_goto (tgt := 19) dX8_hasNumber_15 (by decide) ?_
      exact ev_ireturn dX8_hasNumber_19 (okR_z rfl (by first | exact Or.inl rfl | exact Or.inr rfl | assumption)) (rz (by first | exact ⟨yn_1 (by first | assumption | omega), rfl⟩ | exact ⟨yn_0 (by first | assumption | omega), rfl⟩))
    · refine ev_iload_n dX8_hasNumber_9 rfl ?_
      refine ev_iconst dX8_hasNumber_10 ?_
      refine ev_icmp_ne (tgt := 18) dX8_hasNumber_11 (by decide) (by omega) (by omega) (fun hb11 => ?_) (fun hb11 => ?_)
      · refine ev_iconst dX8_hasNumber_18 ?_
        exact ev_ireturn dX8_hasNumber_19 (okR_z rfl (by first | exact Or.inl rfl | exact Or.inr rfl | assumption)) (rz (by first | exact ⟨yn_1 (by first | assumption | omega), rfl⟩ | exact ⟨yn_0 (by first | assumption | omega), rfl⟩))
      · refine ev_iconst dX8_hasNumber_14 ?_
        refine ev_goto (tgt := 19) dX8_hasNumber_15 (by decide) ?_
        exact ev_ireturn dX8_hasNumber_19 (okR_z rfl (by first | exact Or.inl rfl | exact Or.inr rfl | assumption)) (rz (by first | exact ⟨yn_1 (by first | assumption | omega), rfl⟩ | exact ⟨yn_0 (by first | assumption | omega), rfl⟩))
theorem c_isSuch {x y : Int} (hx : inR x) (hy : inR y) (M : Mm) : Cm mX8_isSuch [vI x, vI y] M (fun r M' => yn (y = 0 ∨ x = y ∨ (y = 1 ∧ x = 3)) r ∧ M' = M) := by
  refine cm_of (by decide +kernel) (fun _ => trivial) (Nat.le_of_ble_eq_true rfl) ?_
  refine ev_iload_n dX8_isSuch_0 rfl ?_
  refine ev_if_eq (tgt := 19) dX8_isSuch_1 (by decide) (by omega) (fun hb1 => ?_) (fun hb1 => ?_)
  · refine ev_iconst dX8_isSuch_19 ?_
    refine ev_goto (tgt := 24) dX8_isSuch_20 (by decide) ?_
    exact ev_ireturn dX8_isSuch_24 (okR_z rfl (by first | exact Or.inl rfl | exact Or.inr rfl | assumption)) (rz (by first | exact ⟨yn_1 (by first | assumption | omega), rfl⟩ | exact ⟨yn_0 (by first | assumption | omega), rfl⟩))
  · refine ev_iload_n dX8_isSuch_4 rfl ?_
    refine ev_iload_n dX8_isSuch_5 rfl ?_
    refine ev_icmp_eq (tgt := 19) dX8_isSuch_6 (by decide) (by omega) (by omega) (fun hb6 => ?_) (fun hb6 => ?_)
    · refine ev_iconst dX8_isSuch_19 ?_
      refine ev_goto (tgt := 24) dX8_isSuch_20 (by decide) ?_
      exact ev_ireturn dX8_isSuch_24 (okR_z rfl (by first | exact Or.inl rfl | exact Or.inr rfl | assumption)) (rz (by first | exact ⟨yn_1 (by first | assumption | omega), rfl⟩ | exact ⟨yn_0 (by first | assumption | omega), rfl⟩))
    · refine ev_iload_n dX8_isSuch_9 rfl ?_
      refine ev_iconst dX8_isSuch_10 ?_
      refine ev_icmp_ne (tgt := 23) dX8_isSuch_11 (by decide) (by omega) (by omega) (fun hb11 => ?_) (fun hb11 => ?_)
      · refine ev_iconst dX8_isSuch_23 ?_
        exact ev_ireturn dX8_isSuch_24 (okR_z rfl (by first | exact Or.inl rfl | exact Or.inr rfl | assumption)) (rz (by first | exact ⟨yn_1 (by first | assumption | omega), rfl⟩ | exact ⟨yn_0 (by first | assumption | omega), rfl⟩))
      · refine ev_iload_n dX8_isSuch_14 rfl ?_
        refine ev_iconst dX8_isSuch_15 ?_
        refine ev_icmp_ne (tgt := 23) dX8_isSuch_16 (by decide) (by omega) (by omega) (fun hb16 => ?_) (fun hb16 => ?_)
        · refine ev_iconst dX8_isSuch_23 ?_
          exact ev_ireturn dX8_isSuch_24 (okR_z rfl (by first | exact Or.inl rfl | exact Or.inr rfl | assumption)) (rz (by first | exact ⟨yn_1 (by first | assumption | omega), rfl⟩ | exact ⟨yn_0 (by first | assumption | omega), rfl⟩))
        · refine ev_iconst dX8_isSuch_19 ?_
          refine ev_goto (tgt := 24) dX8_isSuch_20 (by decide) ?_
          exact ev_ireturn dX8_isSuch_24 (okR_z rfl (by first | exact Or.inl rfl | exact Or.inr rfl | assumption)) (rz (by first | exact ⟨yn_1 (by first | assumption | omega), rfl⟩ | exact ⟨yn_0 (by first | assumption | omega), rfl⟩))
theorem c_asInt {x : Int} (hx : x = 0 ∨ x = 1) (M : Mm) : Cm mX8_asInt [vI x] M (fun r M' => r = some (vI x) ∧ M' = M) := by
  refine cm_of (by decide +kernel) (fun _ => trivial) (Nat.le_of_ble_eq_true rfl) ?_
  refine ev_iload_n dX8_asInt_0 rfl ?_
  refine ev_if_eq (tgt := 8) dX8_asInt_1 (by decide) (by omega) (fun hb1 => ?_) (fun hb1 => ?_)
  · refine ev_iconst dX8_asInt_8 ?_
    exact ev_ireturn dX8_asInt_9 ⟨_, rfl, rfl⟩ (rz ⟨by first | rfl | (rw [show x = 0 by omega]) | (rw [show x = 1 by omega]), rfl⟩)
  · refine ev_iconst dX8_asInt_4 ?_
    refine ev_goto (tgt := 9) dX8_asInt_5 (by decide) ?_
    exact ev_ireturn dX8_asInt_9 ⟨_, rfl, rfl⟩ (rz ⟨by first | rfl | (rw [show x = 0 by omega]) | (rw [show x = 1 by omega]), rfl⟩)
/-- what may be put -/
abbrev putP (kd a b z : Int) : Prop := (0 ≤ kd ∧ kd < 4) ∧ (0 ≤ a ∧ a < (if kd = 0 then 6 else 3)) ∧ (kd < 2 → 0 ≤ b ∧ b < 6) ∧ (kd ≠ 2 → -9 ≤ z ∧ z ≤ 9)
theorem c_canBePut {kd a b z : Int} (h1 : inR kd) (h2 : inR a) (h3 : inR b) (h4 : inR z) (M : Mm) : Cm mX8_canBePut [vI kd, vI a, vI b, vI z] M (fun r M' => yn (putP kd a b z) r ∧ M' = M) := by
  refine cm_of (by decide +kernel) (fun _ => trivial) (Nat.le_of_ble_eq_true rfl) ?_
  refine ev_iload_n dX8_canBePut_0 rfl ?_
  refine ev_calls (c_isKind h1 _) dX8_canBePut_1 tX8_isKind.1 kX8_146 tX8_isKind.2.1 tX8_isKind.2.2 ⟨⟨Nat.le_of_ble_eq_true rfl, Nat.le_of_ble_eq_true rfl⟩, Nat.le_of_ble_eq_true rfl, Nat.le_of_ble_eq_true rfl⟩ rfl (Nat.le_of_ble_eq_true rfl) ?_
  rintro r K' M' P' ⟨rfl, rfl, ⟨v1, rfl, hw1, hv1⟩, hM'⟩
  rw [hM']
  clear hM' M'
  refine ev_if_eq (tgt := 12) dX8_canBePut_4 (by decide) (by omega) (fun hb4 => ?_) (fun hb4 => ?_)
  · have g1 := (not_congr hv1).mp (by omega)
    refine ev_iconst dX8_canBePut_12 ?_
    exact ev_ireturn dX8_canBePut_13 (okR_z rfl (by first | exact Or.inl rfl | exact Or.inr rfl | assumption)) (rz (by first | exact ⟨yn_1 (by unfold putP; split <;> omega), rfl⟩ | exact ⟨yn_0 (by unfold putP; split <;> omega), rfl⟩))
  · have g1 := hv1.mp (by omega)
    refine ev_iload_n dX8_canBePut_7 rfl ?_
    refine ev_iconst dX8_canBePut_8 ?_
    refine ev_icmp_ne (tgt := 14) dX8_canBePut_9 (by decide) (by omega) (by omega) (fun hb9 => ?_) (fun hb9 => ?_)
    · refine ev_iload_n dX8_canBePut_14 rfl ?_
      refine ev_if_ne (tgt := 23) dX8_canBePut_15 (by decide) (by omega) (fun hb15 => ?_) (fun hb15 => ?_)
      · refine ev_iconst dX8_canBePut_23 ?_
        refine ev_istore dX8_canBePut_24 (by decide) ?_
        refine ev_iload_n dX8_canBePut_26 rfl ?_
        refine ev_if_lt (tgt := 36) dX8_canBePut_27 (by decide) (by omega) (fun hb27 => ?_) (fun hb27 => ?_)
        · refine ev_iconst dX8_canBePut_36 ?_
          exact ev_ireturn dX8_canBePut_37 (okR_z rfl (by first | exact Or.inl rfl | exact Or.inr rfl | assumption)) (rz (by first | exact ⟨yn_1 (by unfold putP; split <;> omega), rfl⟩ | exact ⟨yn_0 (by unfold putP; split <;> omega), rfl⟩))
        · refine ev_iload_n dX8_canBePut_30 rfl ?_
          refine ev_iload dX8_canBePut_31 rfl ?_
          refine ev_icmp_lt (tgt := 38) dX8_canBePut_33 (by decide) (by omega) (by omega) (fun hb33 => ?_) (fun hb33 => ?_)
          · refine ev_iload_n dX8_canBePut_38 rfl ?_
            refine ev_calls (c_hasSecond h1 _) dX8_canBePut_39 tX8_hasSecond.1 kX8_200 tX8_hasSecond.2.1 tX8_hasSecond.2.2 ⟨⟨Nat.le_of_ble_eq_true rfl, Nat.le_of_ble_eq_true rfl⟩, Nat.le_of_ble_eq_true rfl, Nat.le_of_ble_eq_true rfl⟩ rfl (Nat.le_of_ble_eq_true rfl) ?_
            rintro r K' M' P' ⟨rfl, rfl, ⟨v39, rfl, hw39, hv39⟩, hM'⟩
            rw [hM']
            clear hM' M'
            refine ev_if_eq (tgt := 54) dX8_canBePut_42 (by decide) (by omega) (fun hb42 => ?_) (fun hb42 => ?_)
            · have g39 := (not_congr hv39).mp (by omega)
              refine ev_iload_n dX8_canBePut_54 rfl ?_
              refine ev_calls (c_hasNumber h1 _) dX8_canBePut_55 tX8_hasNumber.1 kX8_120 tX8_hasNumber.2.1 tX8_hasNumber.2.2 ⟨⟨Nat.le_of_ble_eq_true rfl, Nat.le_of_ble_eq_true rfl⟩, Nat.le_of_ble_eq_true rfl, Nat.le_of_ble_eq_true rfl⟩ rfl (Nat.le_of_ble_eq_true rfl) ?_
              rintro r K' M' P' ⟨rfl, rfl, ⟨v55, rfl, hw55, hv55⟩, hM'⟩
              rw [hM']
              clear hM' M'
              refine ev_if_eq (tgt := 68) dX8_canBePut_58 (by decide) (by omega) (fun hb58 => ?_) (fun hb58 => ?_)
              · have g55 := (not_congr hv55).mp (by omega)
                refine ev_iconst dX8_canBePut_68 ?_
                refine ev_goto (tgt := 73) dX8_canBePut_69 (by decide) ?_
                exact ev_ireturn dX8_canBePut_73 (okR_z rfl (by first | exact Or.inl rfl | exact Or.inr rfl | assumption)) (rz (by first | exact ⟨yn_1 (by unfold putP; split <;> omega), rfl⟩ | exact ⟨yn_0 (by unfold putP; split <;> omega), rfl⟩))
              · have g55 := hv55.mp (by omega)
                refine ev_iload_n dX8_canBePut_61 rfl ?_
                refine ev_calls (c_isBy h4 _) dX8_canBePut_62 tX8_isBy.1 kX8_213 tX8_isBy.2.1 tX8_isBy.2.2 ⟨⟨Nat.le_of_ble_eq_true rfl, Nat.le_of_ble_eq_true rfl⟩, Nat.le_of_ble_eq_true rfl, Nat.le_of_ble_eq_true rfl⟩ rfl (Nat.le_of_ble_eq_true rfl) ?_
                rintro r K' M' P' ⟨rfl, rfl, ⟨v62, rfl, hw62, hv62⟩, hM'⟩
                rw [hM']
                clear hM' M'
                refine ev_if_eq (tgt := 72) dX8_canBePut_65 (by decide) (by omega) (fun hb65 => ?_) (fun hb65 => ?_)
                · have g62 := (not_congr hv62).mp (by omega)
                  refine ev_iconst dX8_canBePut_72 ?_
                  exact ev_ireturn dX8_canBePut_73 (okR_z rfl (by first | exact Or.inl rfl | exact Or.inr rfl | assumption)) (rz (by first | exact ⟨yn_1 (by unfold putP; split <;> omega), rfl⟩ | exact ⟨yn_0 (by unfold putP; split <;> omega), rfl⟩))
                · have g62 := hv62.mp (by omega)
                  refine ev_iconst dX8_canBePut_68 ?_
                  refine ev_goto (tgt := 73) dX8_canBePut_69 (by decide) ?_
                  exact ev_ireturn dX8_canBePut_73 (okR_z rfl (by first | exact Or.inl rfl | exact Or.inr rfl | assumption)) (rz (by first | exact ⟨yn_1 (by unfold putP; split <;> omega), rfl⟩ | exact ⟨yn_0 (by unfold putP; split <;> omega), rfl⟩))
            · have g39 := hv39.mp (by omega)
              refine ev_iload_n dX8_canBePut_45 rfl ?_
              refine ev_calls (c_isSigned h3 _) dX8_canBePut_46 tX8_isSigned.1 kX8_156 tX8_isSigned.2.1 tX8_isSigned.2.2 ⟨⟨Nat.le_of_ble_eq_true rfl, Nat.le_of_ble_eq_true rfl⟩, Nat.le_of_ble_eq_true rfl, Nat.le_of_ble_eq_true rfl⟩ rfl (Nat.le_of_ble_eq_true rfl) ?_
              rintro r K' M' P' ⟨rfl, rfl, ⟨v46, rfl, hw46, hv46⟩, hM'⟩
              rw [hM']
              clear hM' M'
              refine ev_if_ne (tgt := 54) dX8_canBePut_49 (by decide) (by omega) (fun hb49 => ?_) (fun hb49 => ?_)
              · have g46 := hv46.mp (by omega)
                refine ev_iload_n dX8_canBePut_54 rfl ?_
                refine ev_calls (c_hasNumber h1 _) dX8_canBePut_55 tX8_hasNumber.1 kX8_120 tX8_hasNumber.2.1 tX8_hasNumber.2.2 ⟨⟨Nat.le_of_ble_eq_true rfl, Nat.le_of_ble_eq_true rfl⟩, Nat.le_of_ble_eq_true rfl, Nat.le_of_ble_eq_true rfl⟩ rfl (Nat.le_of_ble_eq_true rfl) ?_
                rintro r K' M' P' ⟨rfl, rfl, ⟨v55, rfl, hw55, hv55⟩, hM'⟩
                rw [hM']
                clear hM' M'
                refine ev_if_eq (tgt := 68) dX8_canBePut_58 (by decide) (by omega) (fun hb58 => ?_) (fun hb58 => ?_)
                · have g55 := (not_congr hv55).mp (by omega)
                  refine ev_iconst dX8_canBePut_68 ?_
                  refine ev_goto (tgt := 73) dX8_canBePut_69 (by decide) ?_
                  exact ev_ireturn dX8_canBePut_73 (okR_z rfl (by first | exact Or.inl rfl | exact Or.inr rfl | assumption)) (rz (by first | exact ⟨yn_1 (by unfold putP; split <;> omega), rfl⟩ | exact ⟨yn_0 (by unfold putP; split <;> omega), rfl⟩))
                · have g55 := hv55.mp (by omega)
                  refine ev_iload_n dX8_canBePut_61 rfl ?_
                  refine ev_calls (c_isBy h4 _) dX8_canBePut_62 tX8_isBy.1 kX8_213 tX8_isBy.2.1 tX8_isBy.2.2 ⟨⟨Nat.le_of_ble_eq_true rfl, Nat.le_of_ble_eq_true rfl⟩, Nat.le_of_ble_eq_true rfl, Nat.le_of_ble_eq_true rfl⟩ rfl (Nat.le_of_ble_eq_true rfl) ?_
                  rintro r K' M' P' ⟨rfl, rfl, ⟨v62, rfl, hw62, hv62⟩, hM'⟩
                  rw [hM']
                  clear hM' M'
                  refine ev_if_eq (tgt := 72) dX8_canBePut_65 (by decide) (by omega) (fun hb65 => ?_) (fun hb65 => ?_)
                  · have g62 := (not_congr hv62).mp (by omega)
                    refine ev_iconst dX8_canBePut_72 ?_
                    exact ev_ireturn dX8_canBePut_73 (okR_z rfl (by first | exact Or.inl rfl | exact Or.inr rfl | assumption)) (rz (by first | exact ⟨yn_1 (by unfold putP; split <;> omega), rfl⟩ | exact ⟨yn_0 (by unfold putP; split <;> omega), rfl⟩))
                  · have g62 := hv62.mp (by omega)
                    refine ev_iconst dX8_canBePut_68 ?_
                    refine ev_goto (tgt := 73) dX8_canBePut_69 (by decide) ?_
                    exact ev_ireturn dX8_canBePut_73 (okR_z rfl (by first | exact Or.inl rfl | exact Or.inr rfl | assumption)) (rz (by first | exact ⟨yn_1 (by unfold putP; split <;> omega), rfl⟩ | exact ⟨yn_0 (by unfold putP; split <;> omega), rfl⟩))
              · have g46 := (not_congr hv46).mp (by omega)
                refine ev_iconst dX8_canBePut_52 ?_
                exact ev_ireturn dX8_canBePut_53 (okR_z rfl (by first | exact Or.inl rfl | exact Or.inr rfl | assumption)) (rz (by first | exact ⟨yn_1 (by unfold putP; split <;> omega), rfl⟩ | exact ⟨yn_0 (by unfold putP; split <;> omega), rfl⟩))
          · refine ev_iconst dX8_canBePut_36 ?_
            exact ev_ireturn dX8_canBePut_37 (okR_z rfl (by first | exact Or.inl rfl | exact Or.inr rfl | assumption)) (rz (by first | exact ⟨yn_1 (by unfold putP; split <;> omega), rfl⟩ | exact ⟨yn_0 (by unfold putP; split <;> omega), rfl⟩))
      · refine ev_bipush dX8_canBePut_18 ?_
        refine ev_goto (tgt := 24) dX8_canBePut_20 (by decide) ?_
        refine ev_istore dX8_canBePut_24 (by decide) ?_
        refine ev_iload_n dX8_canBePut_26 rfl ?_
        refine ev_if_lt (tgt := 36) dX8_canBePut_27 (by decide) (by omega) (fun hb27 => ?_) (fun hb27 => ?_)
        · refine ev_iconst dX8_canBePut_36 ?_
          exact ev_ireturn dX8_canBePut_37 (okR_z rfl (by first | exact Or.inl rfl | exact Or.inr rfl | assumption)) (rz (by first | exact ⟨yn_1 (by unfold putP; split <;> omega), rfl⟩ | exact ⟨yn_0 (by unfold putP; split <;> omega), rfl⟩))
        · refine ev_iload_n dX8_canBePut_30 rfl ?_
          refine ev_iload dX8_canBePut_31 rfl ?_
          refine ev_icmp_lt (tgt := 38) dX8_canBePut_33 (by decide) (by omega) (by omega) (fun hb33 => ?_) (fun hb33 => ?_)
          · refine ev_iload_n dX8_canBePut_38 rfl ?_
            refine ev_calls (c_hasSecond h1 _) dX8_canBePut_39 tX8_hasSecond.1 kX8_200 tX8_hasSecond.2.1 tX8_hasSecond.2.2 ⟨⟨Nat.le_of_ble_eq_true rfl, Nat.le_of_ble_eq_true rfl⟩, Nat.le_of_ble_eq_true rfl, Nat.le_of_ble_eq_true rfl⟩ rfl (Nat.le_of_ble_eq_true rfl) ?_
            rintro r K' M' P' ⟨rfl, rfl, ⟨v39, rfl, hw39, hv39⟩, hM'⟩
            rw [hM']
            clear hM' M'
            refine ev_if_eq (tgt := 54) dX8_canBePut_42 (by decide) (by omega) (fun hb42 => ?_) (fun hb42 => ?_)
            · have g39 := (not_congr hv39).mp (by omega)
              refine ev_iload_n dX8_canBePut_54 rfl ?_
              refine ev_calls (c_hasNumber h1 _) dX8_canBePut_55 tX8_hasNumber.1 kX8_120 tX8_hasNumber.2.1 tX8_hasNumber.2.2 ⟨⟨Nat.le_of_ble_eq_true rfl, Nat.le_of_ble_eq_true rfl⟩, Nat.le_of_ble_eq_true rfl, Nat.le_of_ble_eq_true rfl⟩ rfl (Nat.le_of_ble_eq_true rfl) ?_
              rintro r K' M' P' ⟨rfl, rfl, ⟨v55, rfl, hw55, hv55⟩, hM'⟩
              rw [hM']
              clear hM' M'
              refine ev_if_eq (tgt := 68) dX8_canBePut_58 (by decide) (by omega) (fun hb58 => ?_) (fun hb58 => ?_)
              · have g55 := (not_congr hv55).mp (by omega)
                refine ev_iconst dX8_canBePut_68 ?_
                refine ev_goto (tgt := 73) dX8_canBePut_69 (by decide) ?_
                exact ev_ireturn dX8_canBePut_73 (okR_z rfl (by first | exact Or.inl rfl | exact Or.inr rfl | assumption)) (rz (by first | exact ⟨yn_1 (by unfold putP; split <;> omega), rfl⟩ | exact ⟨yn_0 (by unfold putP; split <;> omega), rfl⟩))
              · have g55 := hv55.mp (by omega)
                refine ev_iload_n dX8_canBePut_61 rfl ?_
                refine ev_calls (c_isBy h4 _) dX8_canBePut_62 tX8_isBy.1 kX8_213 tX8_isBy.2.1 tX8_isBy.2.2 ⟨⟨Nat.le_of_ble_eq_true rfl, Nat.le_of_ble_eq_true rfl⟩, Nat.le_of_ble_eq_true rfl, Nat.le_of_ble_eq_true rfl⟩ rfl (Nat.le_of_ble_eq_true rfl) ?_
                rintro r K' M' P' ⟨rfl, rfl, ⟨v62, rfl, hw62, hv62⟩, hM'⟩
                rw [hM']
                clear hM' M'
                refine ev_if_eq (tgt := 72) dX8_canBePut_65 (by decide) (by omega) (fun hb65 => ?_) (fun hb65 => ?_)
                · have g62 := (not_congr hv62).mp (by omega)
                  refine ev_iconst dX8_canBePut_72 ?_
                  exact ev_ireturn dX8_canBePut_73 (okR_z rfl (by first | exact Or.inl rfl | exact Or.inr rfl | assumption)) (rz (by first | exact ⟨yn_1 (by unfold putP; split <;> omega), rfl⟩ | exact ⟨yn_0 (by unfold putP; split <;> omega), rfl⟩))
                · have g62 := hv62.mp (by omega)
                  refine ev_iconst dX8_canBePut_68 ?_
                  refine ev_goto (tgt := 73) dX8_canBePut_69 (by decide) ?_
                  exact ev_ireturn dX8_canBePut_73 (okR_z rfl (by first | exact Or.inl rfl | exact Or.inr rfl | assumption)) (rz (by first | exact ⟨yn_1 (by unfold putP; split <;> omega), rfl⟩ | exact ⟨yn_0 (by unfold putP; split <;> omega), rfl⟩))
            · have g39 := hv39.mp (by omega)
              refine ev_iload_n dX8_canBePut_45 rfl ?_
              refine ev_calls (c_isSigned h3 _) dX8_canBePut_46 tX8_isSigned.1 kX8_156 tX8_isSigned.2.1 tX8_isSigned.2.2 ⟨⟨Nat.le_of_ble_eq_true rfl, Nat.le_of_ble_eq_true rfl⟩, Nat.le_of_ble_eq_true rfl, Nat.le_of_ble_eq_true rfl⟩ rfl (Nat.le_of_ble_eq_true rfl) ?_
              rintro r K' M' P' ⟨rfl, rfl, ⟨v46, rfl, hw46, hv46⟩, hM'⟩
              rw [hM']
              clear hM' M'
              refine ev_if_ne (tgt := 54) dX8_canBePut_49 (by decide) (by omega) (fun hb49 => ?_) (fun hb49 => ?_)
              · have g46 := hv46.mp (by omega)
                refine ev_iload_n dX8_canBePut_54 rfl ?_
                refine ev_calls (c_hasNumber h1 _) dX8_canBePut_55 tX8_hasNumber.1 kX8_120 tX8_hasNumber.2.1 tX8_hasNumber.2.2 ⟨⟨Nat.le_of_ble_eq_true rfl, Nat.le_of_ble_eq_true rfl⟩, Nat.le_of_ble_eq_true rfl, Nat.le_of_ble_eq_true rfl⟩ rfl (Nat.le_of_ble_eq_true rfl) ?_
                rintro r K' M' P' ⟨rfl, rfl, ⟨v55, rfl, hw55, hv55⟩, hM'⟩
                rw [hM']
                clear hM' M'
                refine ev_if_eq (tgt := 68) dX8_canBePut_58 (by decide) (by omega) (fun hb58 => ?_) (fun hb58 => ?_)
                · have g55 := (not_congr hv55).mp (by omega)
                  refine ev_iconst dX8_canBePut_68 ?_
                  refine ev_goto (tgt := 73) dX8_canBePut_69 (by decide) ?_
                  exact ev_ireturn dX8_canBePut_73 (okR_z rfl (by first | exact Or.inl rfl | exact Or.inr rfl | assumption)) (rz (by first | exact ⟨yn_1 (by unfold putP; split <;> omega), rfl⟩ | exact ⟨yn_0 (by unfold putP; split <;> omega), rfl⟩))
                · have g55 := hv55.mp (by omega)
                  refine ev_iload_n dX8_canBePut_61 rfl ?_
                  refine ev_calls (c_isBy h4 _) dX8_canBePut_62 tX8_isBy.1 kX8_213 tX8_isBy.2.1 tX8_isBy.2.2 ⟨⟨Nat.le_of_ble_eq_true rfl, Nat.le_of_ble_eq_true rfl⟩, Nat.le_of_ble_eq_true rfl, Nat.le_of_ble_eq_true rfl⟩ rfl (Nat.le_of_ble_eq_true rfl) ?_
                  rintro r K' M' P' ⟨rfl, rfl, ⟨v62, rfl, hw62, hv62⟩, hM'⟩
                  rw [hM']
                  clear hM' M'
                  refine ev_if_eq (tgt := 72) dX8_canBePut_65 (by decide) (by omega) (fun hb65 => ?_) (fun hb65 => ?_)
                  · have g62 := (not_congr hv62).mp (by omega)
                    refine ev_iconst dX8_canBePut_72 ?_
                    exact ev_ireturn dX8_canBePut_73 (okR_z rfl (by first | exact Or.inl rfl | exact Or.inr rfl | assumption)) (rz (by first | exact ⟨yn_1 (by unfold putP; split <;> omega), rfl⟩ | exact ⟨yn_0 (by unfold putP; split <;> omega), rfl⟩))
                  · have g62 := hv62.mp (by omega)
                    refine ev_iconst dX8_canBePut_68 ?_
                    refine ev_goto (tgt := 73) dX8_canBePut_69 (by decide) ?_
                    exact ev_ireturn dX8_canBePut_73 (okR_z rfl (by first | exact Or.inl rfl | exact Or.inr rfl | assumption)) (rz (by first | exact ⟨yn_1 (by unfold putP; split <;> omega), rfl⟩ | exact ⟨yn_0 (by unfold putP; split <;> omega), rfl⟩))
              · have g46 := (not_congr hv46).mp (by omega)
                refine ev_iconst dX8_canBePut_52 ?_
                exact ev_ireturn dX8_canBePut_53 (okR_z rfl (by first | exact Or.inl rfl | exact Or.inr rfl | assumption)) (rz (by first | exact ⟨yn_1 (by unfold putP; split <;> omega), rfl⟩ | exact ⟨yn_0 (by unfold putP; split <;> omega), rfl⟩))
          · refine ev_iconst dX8_canBePut_36 ?_
            exact ev_ireturn dX8_canBePut_37 (okR_z rfl (by first | exact Or.inl rfl | exact Or.inr rfl | assumption)) (rz (by first | exact ⟨yn_1 (by unfold putP; split <;> omega), rfl⟩ | exact ⟨yn_0 (by unfold putP; split <;> omega), rfl⟩))
    · refine ev_iconst dX8_canBePut_12 ?_
      exact ev_ireturn dX8_canBePut_13 (okR_z rfl (by first | exact Or.inl rfl | exact Or.inr rfl | assumption)) (rz (by first | exact ⟨yn_1 (by unfold putP; split <;> omega), rfl⟩ | exact ⟨yn_0 (by unfold putP; split <;> omega), rfl⟩))
theorem c_letter {x : Int} (hx : inR x) (M : Mm) (h0 : 0 ≤ M 1 1) (h1 : M 1 1 ≤ 36) : Cm mX8_letter [vR 0, vI x] M (fun r M' => r = some (vI (if x < 1 ∨ 126 < x then -102 else if 36 ≤ M 1 1 then -104 else M 1 1 + 1)) ∧ M' = if x < 1 ∨ 126 < x ∨ 36 ≤ M 1 1 then M else rwc (rwc M 2 (up1 (M 2) (M 1 1) x)) 1 (up1 (M 1) 1 (M 1 1 + 1))) := by
  refine cm_of (by decide +kernel) (fun _ => trivial) (Nat.le_of_ble_eq_true rfl) ?_
  refine ev_iload_n dX8_letter_0 rfl ?_
  refine ev_iconst dX8_letter_1 ?_
  refine ev_icmp_lt (tgt := 11) dX8_letter_2 (by decide) (by omega) (by omega) (fun hb2 => ?_) (fun hb2 => ?_)
  · refine ev_bipush dX8_letter_11 ?_
    exact ev_ireturn dX8_letter_13 ⟨_, rfl, rfl⟩ (rz ⟨by (repeat' split) <;> first | rfl | omega, by (repeat' split) <;> first | rfl | omega⟩)
  · refine ev_iload_n dX8_letter_5 rfl ?_
    refine ev_bipush dX8_letter_6 ?_
    refine ev_icmp_le (tgt := 14) dX8_letter_8 (by decide) (by omega) (by omega) (fun hb8 => ?_) (fun hb8 => ?_)
    · first | refine ev_aload_n dX8_letter_14 rfl ?_ | refine ev_aloadX_n dX8_letter_14 rfl ?_
      refine ev_getR dX8_letter_15 fX8_10 rfl (by first | rfl | assumption) (by first | rfl | assumption) ?_
      refine ev_gI 1 dX8_letter_18 fX8_79 rfl (by first | rfl | assumption) rfl ?_
      refine ev_bipush dX8_letter_21 ?_
      refine ev_icmp_lt (tgt := 29) dX8_letter_23 (by decide) (by omega) (by omega) (fun hb23 => ?_) (fun hb23 => ?_)
      · first | refine ev_aload_n dX8_letter_29 rfl ?_ | refine ev_aloadX_n dX8_letter_29 rfl ?_
        refine ev_getR dX8_letter_30 fX8_10 rfl (by first | rfl | assumption) (by first | rfl | assumption) ?_
        refine ev_iload_n dX8_letter_33 rfl ?_
        refine ev_callv (ci := 1) (c_pgAppend M (by omega) (by omega)) dX8_letter_34 tX1_append.1 kX8_82 tX1_append.2.1 tX1_append.2.2.1 rfl (by first | rfl | assumption) tX1_append.2.2.2 ⟨⟨Nat.le_of_ble_eq_true rfl, Nat.le_of_ble_eq_true rfl⟩, Nat.le_of_ble_eq_true rfl, Nat.le_of_ble_eq_true rfl⟩ rfl (Nat.le_of_ble_eq_true rfl) ?_
        rintro r K' M' P' ⟨rfl, rfl, rfl, hM'⟩
        rw [hM']
        clear hM' M'
        first | refine ev_aload_n dX8_letter_37 rfl ?_ | refine ev_aloadX_n dX8_letter_37 rfl ?_
        refine ev_getR dX8_letter_38 fX8_10 rfl (by first | rfl | assumption) (by first | rfl | assumption) ?_
        refine ev_gI 1 dX8_letter_41 fX8_79 rfl (by first | rfl | assumption) rfl ?_
        simp only [rwc_at, up1_s]
        exact ev_ireturn dX8_letter_44 ⟨_, rfl, rfl⟩ (rz ⟨by (repeat' split) <;> first | rfl | omega, by (repeat' split) <;> first | rfl | omega⟩)
      · refine ev_bipush dX8_letter_26 ?_
        exact ev_ireturn dX8_letter_28 ⟨_, rfl, rfl⟩ (rz ⟨by (repeat' split) <;> first | rfl | omega, by (repeat' split) <;> first | rfl | omega⟩)
    · refine ev_bipush dX8_letter_11 ?_
      exact ev_ireturn dX8_letter_13 ⟨_, rfl, rfl⟩ (rz ⟨by (repeat' split) <;> first | rfl | omega, by (repeat' split) <;> first | rfl | omega⟩)
theorem c_blank (M : Mm) : Cm mX8_blank [vR 0] M (fun r M' => r = some (vI (M 1 1)) ∧ M' = upM M 1 1 0) := by
  refine cm_of (by decide +kernel) (fun _ => trivial) (Nat.le_of_ble_eq_true rfl) ?_
  first | refine ev_aload_n dX8_blank_0 rfl ?_ | refine ev_aloadX_n dX8_blank_0 rfl ?_
  refine ev_getR dX8_blank_1 fX8_10 rfl (by first | rfl | assumption) (by first | rfl | assumption) ?_
  refine ev_gI 1 dX8_blank_4 fX8_79 rfl (by first | rfl | assumption) rfl ?_
  refine ev_istore_n dX8_blank_7 (by decide) ?_
  first | refine ev_aload_n dX8_blank_8 rfl ?_ | refine ev_aloadX_n dX8_blank_8 rfl ?_
  refine ev_getR dX8_blank_9 fX8_10 rfl (by first | rfl | assumption) (by first | rfl | assumption) ?_
  refine ev_iconst dX8_blank_12 ?_
  refine ev_pI 1 dX8_blank_13 sX8_79 rfl (by first | rfl | assumption) rfl ?_
  refine ev_iload_n dX8_blank_16 rfl ?_
  exact ev_ireturn dX8_blank_17 ⟨_, rfl, rfl⟩ (rz ⟨rfl, rfl⟩)
theorem c_forget (M : Mm) : Cm mX8_forget [vR 0] M (fun r M' => r = some (vI (M 40 2)) ∧ M' = upM M 40 2 0) := by
  refine cm_of (by decide +kernel) (fun _ => trivial) (Nat.le_of_ble_eq_true rfl) ?_
  first | refine ev_aload_n dX8_forget_0 rfl ?_ | refine ev_aloadX_n dX8_forget_0 rfl ?_
  refine ev_getR dX8_forget_1 fX8_47 rfl (by first | rfl | assumption) (by first | rfl | assumption) ?_
  refine ev_gI 2 dX8_forget_4 fX8_101 rfl (by first | rfl | assumption) rfl ?_
  refine ev_istore_n dX8_forget_7 (by decide) ?_
  first | refine ev_aload_n dX8_forget_8 rfl ?_ | refine ev_aloadX_n dX8_forget_8 rfl ?_
  refine ev_getR dX8_forget_9 fX8_47 rfl (by first | rfl | assumption) (by first | rfl | assumption) ?_
  refine ev_iconst dX8_forget_12 ?_
  refine ev_pI 2 dX8_forget_13 sX8_101 rfl (by first | rfl | assumption) rfl ?_
  refine ev_iload_n dX8_forget_16 rfl ?_
  exact ev_ireturn dX8_forget_17 ⟨_, rfl, rfl⟩ (rz ⟨rfl, rfl⟩)
