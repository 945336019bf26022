/-! ===== the reference: changed, racks, what is seen, images ===== -/
def chM (M : Mm) : Mm := rwc (upM M 54 11 1) 64 (fillS (-1) (M 64) 15)
theorem k_changed (M : Mm) : Cm mX9_changed [vR 54] M (fun r M' => r = none ∧ M' = chM M) := by
  refine cm_of (by decide +kernel) (fun _ => trivial) (Nat.le_of_ble_eq_true rfl) ?_
  first | refine ev_aload_n dX9_changed_0 rfl ?_ | refine ev_aloadX_n dX9_changed_0 rfl ?_
  refine ev_iconst dX9_changed_1 ?_
  refine ev_pZ 11 dX9_changed_2 sX9_142 rfl (by first | exact Or.inl rfl | exact Or.inr rfl | assumption) (by first | rfl | assumption) rfl ?_
  refine ev_iconst dX9_changed_5 ?_
  refine ev_istore_n dX9_changed_6 (by decide) ?_
  refine ev_to (L' := [some (vR 54), some (vI ((0 : Nat) : Int))]) (S' := []) (M' := rwc (upM M 54 11 1) 64 (fillS (-1) (M 64) (0 : Nat))) (k' := 0) (n' := 0) ?_ (by repeat (first | exact trivial | refine ⟨rfl, ?_⟩)) (by show upM M 54 11 1 = rwc (upM M 54 11 1) 64 (fillS (-1) (M 64) 0); rw [fillS_0, ← upM_o (M := M) (c := 54) (i := 11) (z := 1) (show (64 : Nat) ≠ 54 by decide), rwc_self]) rfl rfl rfl
  refine up_loop (P := fun i => Ev mX9_changed 7 [some (vR 54), some (vI (i : Int))] [] KK (rwc (upM M 54 11 1) 64 (fillS (-1) (M 64) i)) PP 0 0 _) 15 ?_ ?_
  · refine ev_iload_n dX9_changed_7 rfl ?_
    refine ev_bipush dX9_changed_8 ?_
    refine ev_icmp_ge (tgt := 26) dX9_changed_10 (by decide) (by omega) (by omega) (fun hb10 => ?_) (fun hb10 => ?_)
    · exact ev_return dX9_changed_26 rfl (rz ⟨rfl, rfl⟩)
    · omega
  · intro i hi hP
    refine ev_iload_n dX9_changed_7 rfl ?_
    refine ev_bipush dX9_changed_8 ?_
    refine ev_icmp_ge (tgt := 26) dX9_changed_10 (by decide) (by omega) (by omega) (fun hb10 => ?_) (fun hb10 => ?_)
    · omega
    · first | refine ev_aload_n dX9_changed_13 rfl ?_ | refine ev_aloadX_n dX9_changed_13 rfl ?_
      refine ev_getR dX9_changed_14 fX9_38 rfl (by first | rfl | assumption) (by first | rfl | assumption) ?_
      refine ev_iload_n dX9_changed_17 rfl ?_
      refine ev_iconst dX9_changed_18 ?_
      refine ev_iastore dX9_changed_19 (by first | rfl | assumption) (by omega) (by omega) (by decide) ?_
      refine ev_iinc dX9_changed_20 rfl (by decide) ?_
      refine ev_goto (tgt := 7) dX9_changed_23 (by decide) ?_
      refine ev_to hP ⟨rfl, rfl, trivial⟩ ?_ rfl rfl rfl
      rw [upM_rw, rwc_rwc, rwc_at]
      congr 1
      funext j
      unfold fillS up1
      by_cases hj : j = (i : Int)
      · rw [if_pos hj, if_pos (by omega)]
      · rw [if_neg hj]
        dsimp only
        split <;> split <;> first | rfl | omega
/-- the racks hold as many steps as sz says -/
def rkH (M : Mm) (sz : Int → Int) : Prop := ∀ kd, 0 ≤ kd → kd < 5 → (0 ≤ sz kd ∧ sz kd ≤ 3) ∧ ∀ q, 0 ≤ q → q < 3 → (M 64 (3 * kd + q) = -1 ↔ sz kd ≤ q)
abbrev rkB (M : Mm) : Prop := ∀ j, 0 ≤ j → j < 15 → -1 ≤ M 64 j ∧ M 64 j ≤ 1000
theorem k_rackedOf {kd : Int} {sz : Int → Int} (h0 : 0 ≤ kd) (h1 : kd < 5) (M : Mm) (hB : rkB M) (hz : rkH M sz) : Cm mX9_rackedOf [vR 54, vI kd] M (fun r M' => r = some (vI (sz kd)) ∧ M' = M) := by
  obtain ⟨hs, hq⟩ := hz kd h0 h1
  obtain ⟨s, es⟩ := Int.eq_ofNat_of_zero_le hs.1
  rw [es] at hs hq ⊢
  refine cm_of (by decide +kernel) (fun _ => trivial) (Nat.le_of_ble_eq_true rfl) ?_
  refine ev_iconst dX9_rackedOf_0 ?_
  refine ev_istore_n dX9_rackedOf_1 (by decide) ?_
  refine ev_to (L' := [some (vR 54), some (vI kd), some (vI ((0 : Nat) : Int))]) (S' := []) (M' := M) (k' := 0) (n' := 0) ?_ (by repeat (first | exact trivial | refine ⟨rfl, ?_⟩)) rfl rfl rfl rfl
  refine up_loop (P := fun i => Ev mX9_rackedOf 2 [some (vR 54), some (vI kd), some (vI (i : Int))] [] KK (M) PP 0 0 _) s ?_ ?_
  · refine ev_iload_n dX9_rackedOf_2 rfl ?_
    refine ev_iconst dX9_rackedOf_3 ?_
    refine ev_icmp_ge (tgt := 27) dX9_rackedOf_4 (by decide) (by omega) (by omega) (fun h => ?_) (fun h => ?_)
    · refine ev_iload_n dX9_rackedOf_27 rfl ?_
      exact ev_ireturn dX9_rackedOf_28 ⟨_, rfl, rfl⟩ (rz ⟨rfl, rfl⟩)
    · have b := hB (3 * kd + (s : Int)) (by omega) (by omega)
      have e := (hq (s : Int) (by omega) (by omega)).mpr (by omega)
      first | refine ev_aload_n dX9_rackedOf_7 rfl ?_ | refine ev_aloadX_n dX9_rackedOf_7 rfl ?_
      refine ev_getR dX9_rackedOf_8 fX9_38 rfl (by first | rfl | assumption) (by first | rfl | assumption) ?_
      refine ev_iconst dX9_rackedOf_11 ?_
      refine ev_iload_n dX9_rackedOf_12 rfl ?_
      refine ev_imul dX9_rackedOf_13 ?_
      refine ev_iload_n dX9_rackedOf_14 rfl ?_
      refine ev_iadd dX9_rackedOf_15 ?_
      refine ev_iaload dX9_rackedOf_16 (by first | rfl | assumption) (by omega) (by omega) (by decide) ?_
      refine ev_iconst dX9_rackedOf_17 ?_
      refine ev_icmp_eq (tgt := 27) dX9_rackedOf_18 (by decide) (by omega) (by omega) (fun hb18 => ?_) (fun hb18 => ?_)
      · refine ev_iload_n dX9_rackedOf_27 rfl ?_
        exact ev_ireturn dX9_rackedOf_28 ⟨_, rfl, rfl⟩ (rz ⟨rfl, rfl⟩)
      · omega
  · intro i hi hP
    have b := hB (3 * kd + (i : Int)) (by omega) (by omega)
    have e := (not_congr (hq (i : Int) (by omega) (by omega))).mpr (by omega)
    refine ev_iload_n dX9_rackedOf_2 rfl ?_
    refine ev_iconst dX9_rackedOf_3 ?_
    refine ev_icmp_ge (tgt := 27) dX9_rackedOf_4 (by decide) (by omega) (by omega) (fun hb4 => ?_) (fun hb4 => ?_)
    · omega
    · first | refine ev_aload_n dX9_rackedOf_7 rfl ?_ | refine ev_aloadX_n dX9_rackedOf_7 rfl ?_
      refine ev_getR dX9_rackedOf_8 fX9_38 rfl (by first | rfl | assumption) (by first | rfl | assumption) ?_
      refine ev_iconst dX9_rackedOf_11 ?_
      refine ev_iload_n dX9_rackedOf_12 rfl ?_
      refine ev_imul dX9_rackedOf_13 ?_
      refine ev_iload_n dX9_rackedOf_14 rfl ?_
      refine ev_iadd dX9_rackedOf_15 ?_
      refine ev_iaload dX9_rackedOf_16 (by first | rfl | assumption) (by omega) (by omega) (by decide) ?_
      refine ev_iconst dX9_rackedOf_17 ?_
      refine ev_icmp_eq (tgt := 27) dX9_rackedOf_18 (by decide) (by omega) (by omega) (fun hb18 => ?_) (fun hb18 => ?_)
      · omega
      · refine ev_iinc dX9_rackedOf_21 rfl (by decide) ?_
        refine ev_goto (tgt := 2) dX9_rackedOf_24 (by decide) ?_
        exact ev_to hP (by repeat (first | exact trivial | refine ⟨rfl, ?_⟩)) rfl rfl rfl rfl
theorem k_rackedAll {sz : Int → Int} (M : Mm) (hB : rkB M) (hz : rkH M sz) : Cm mX9_rackedAll [vR 54] M (fun r M' => r = some (vI (sumS sz 5)) ∧ M' = M) := by
  refine cm_of (by decide +kernel) (fun _ => trivial) (Nat.le_of_ble_eq_true rfl) ?_
  refine ev_iconst dX9_rackedAll_0 ?_
  refine ev_istore_n dX9_rackedAll_1 (by decide) ?_
  refine ev_iconst dX9_rackedAll_2 ?_
  refine ev_istore_n dX9_rackedAll_3 (by decide) ?_
  refine ev_to (L' := [some (vR 54), some (vI (sumS sz (0 : Nat))), some (vI ((0 : Nat) : Int))]) (S' := []) (M' := M) (k' := 0) (n' := 0) ?_ (by repeat (first | exact trivial | refine ⟨rfl, ?_⟩)) rfl rfl rfl rfl
  refine up_loop (P := fun i => Ev mX9_rackedAll 4 [some (vR 54), some (vI (sumS sz i)), some (vI (i : Int))] [] KK (M) PP 0 0 _) 5 ?_ ?_
  · refine ev_iload_n dX9_rackedAll_4 rfl ?_
    refine ev_iconst dX9_rackedAll_5 ?_
    refine ev_icmp_ge (tgt := 23) dX9_rackedAll_6 (by decide) (by omega) (by omega) (fun hb6 => ?_) (fun hb6 => ?_)
    · refine ev_iload_n dX9_rackedAll_23 rfl ?_
      exact ev_ireturn dX9_rackedAll_24 ⟨_, rfl, rfl⟩ (rz ⟨rfl, rfl⟩)
    · omega
  · intro i hi hP
    refine ev_iload_n dX9_rackedAll_4 rfl ?_
    refine ev_iconst dX9_rackedAll_5 ?_
    refine ev_icmp_ge (tgt := 23) dX9_rackedAll_6 (by decide) (by omega) (by omega) (fun hb6 => ?_) (fun hb6 => ?_)
    · omega
    · refine ev_iload_n dX9_rackedAll_9 rfl ?_
      first | refine ev_aload_n dX9_rackedAll_10 rfl ?_ | refine ev_aloadX_n dX9_rackedAll_10 rfl ?_
      refine ev_iload_n dX9_rackedAll_11 rfl ?_
      refine ev_callv (ci := 9) (k_rackedOf (kd := (i : Int)) (by omega) (by omega) M hB hz) dX9_rackedAll_12 tX9_rackedOf.1 kX9_293 tX9_rackedOf.2.1 tX9_rackedOf.2.2.1 rfl (by first | rfl | assumption) tX9_rackedOf.2.2.2 ⟨⟨Nat.le_of_ble_eq_true rfl, Nat.le_of_ble_eq_true rfl⟩, Nat.le_of_ble_eq_true rfl, Nat.le_of_ble_eq_true rfl⟩ rfl (Nat.le_of_ble_eq_true rfl) ?_
      rintro r K' M' P' ⟨rfl, rfl, rfl, hM'⟩
      rw [hM']
      clear hM' M'
      refine ev_iadd dX9_rackedAll_15 ?_
      refine ev_istore_n dX9_rackedAll_16 (by decide) ?_
      refine ev_iinc dX9_rackedAll_17 rfl (by decide) ?_
      refine ev_goto (tgt := 4) dX9_rackedAll_20 (by decide) ?_
      exact ev_to hP (by repeat (first | exact trivial | refine ⟨rfl, ?_⟩)) rfl rfl rfl rfl
theorem k_racked {x y : Int} (hx : inR x) (hy : inR y) (M : Mm) : Cm mX9_racked [vR 54, vI x, vI y] M (fun r M' => r = some (vI (if x < 0 ∨ 5 ≤ x ∨ y < 0 ∨ 3 ≤ y then -102 else M 64 (3 * x + y))) ∧ M' = M) := by
  refine cm_of (by decide +kernel) (fun _ => trivial) (Nat.le_of_ble_eq_true rfl) ?_
  refine ev_iload_n dX9_racked_0 rfl ?_
  refine ev_i2l dX9_racked_1 (by omega) ?_
  refine ev_lconst (z := 0) dX9_racked_2 ?_
  refine ev_ldc2 (z := 4) dX9_racked_3 jX9_278 (by decide) ?_
  refine ev_calls (k_in (by omega) (by omega) (by omega) M) dX9_racked_6 tX9_in.1 kX9_60 tX9_in.2.1 tX9_in.2.2 ⟨⟨Nat.le_of_ble_eq_true rfl, Nat.le_of_ble_eq_true rfl⟩, Nat.le_of_ble_eq_true rfl, Nat.le_of_ble_eq_true rfl⟩ rfl (Nat.le_of_ble_eq_true rfl) ?_
  rintro r K' M' P' ⟨rfl, rfl, ⟨v6, rfl, hw6, hv6⟩, hM'⟩
  rw [hM']
  clear hM' M'
  refine ev_if_eq (tgt := 37) dX9_racked_9 (by decide) (by omega) (fun hb9 => ?_) (fun hb9 => ?_)
  · have g6 := (not_congr hv6).mp (by omega)
    refine ev_bipush dX9_racked_37 ?_
    exact ev_ireturn dX9_racked_39 ⟨_, rfl, rfl⟩ (rz ⟨by first | rw [if_neg (by omega)] | rw [if_pos (by omega)], rfl⟩)
  · have g6 := hv6.mp (by omega)
    refine ev_iload_n dX9_racked_12 rfl ?_
    refine ev_i2l dX9_racked_13 (by omega) ?_
    refine ev_lconst (z := 0) dX9_racked_14 ?_
    refine ev_ldc2 (z := 2) dX9_racked_15 jX9_247 (by decide) ?_
    refine ev_calls (k_in (by omega) (by omega) (by omega) M) dX9_racked_18 tX9_in.1 kX9_60 tX9_in.2.1 tX9_in.2.2 ⟨⟨Nat.le_of_ble_eq_true rfl, Nat.le_of_ble_eq_true rfl⟩, Nat.le_of_ble_eq_true rfl, Nat.le_of_ble_eq_true rfl⟩ rfl (Nat.le_of_ble_eq_true rfl) ?_
    rintro r K' M' P' ⟨rfl, rfl, ⟨v18, rfl, hw18, hv18⟩, hM'⟩
    rw [hM']
    clear hM' M'
    refine ev_if_eq (tgt := 37) dX9_racked_21 (by decide) (by omega) (fun hb21 => ?_) (fun hb21 => ?_)
    · have g18 := (not_congr hv18).mp (by omega)
      refine ev_bipush dX9_racked_37 ?_
      exact ev_ireturn dX9_racked_39 ⟨_, rfl, rfl⟩ (rz ⟨by first | rw [if_neg (by omega)] | rw [if_pos (by omega)], rfl⟩)
    · have g18 := hv18.mp (by omega)
      first | refine ev_aload_n dX9_racked_24 rfl ?_ | refine ev_aloadX_n dX9_racked_24 rfl ?_
      refine ev_getR dX9_racked_25 fX9_38 rfl (by first | rfl | assumption) (by first | rfl | assumption) ?_
      refine ev_iconst dX9_racked_28 ?_
      refine ev_iload_n dX9_racked_29 rfl ?_
      refine ev_imul dX9_racked_30 ?_
      refine ev_iload_n dX9_racked_31 rfl ?_
      refine ev_iadd dX9_racked_32 ?_
      refine ev_iaload dX9_racked_33 (by first | rfl | assumption) (by omega) (by omega) (by decide) ?_
      refine ev_goto (tgt := 39) dX9_racked_34 (by decide) ?_
      exact ev_ireturn dX9_racked_39 ⟨_, rfl, rfl⟩ (rz ⟨by first | rw [if_neg (by omega)] | rw [if_pos (by omega)], rfl⟩)
theorem k_rack {n : Nat} {x y : Int} {sz : Int → Int} (hx : inR x) (hy : inR y) (M : Mm) (hK : KI M n) (hz : rkH M sz) : Cm mX9_rack [vR 54, vI x, vI y] M (fun r M' => ((x < 0 ∨ n ≤ x) ∧ r = some (vI (-101)) ∧ M' = M) ∨ ((0 ≤ x ∧ x < n) ∧ (y < 0 ∨ 5 ≤ y) ∧ r = some (vI (-102)) ∧ M' = M) ∨ ((0 ≤ x ∧ x < n) ∧ (0 ≤ y ∧ y < 5) ∧ sz y = 3 ∧ r = some (vI (-104)) ∧ M' = M) ∨ ((0 ≤ x ∧ x < n) ∧ (0 ≤ y ∧ y < 5) ∧ sz y < 3 ∧ ¬ (y = 0 ∨ M 57 (4 * x) = y ∨ (y = 1 ∧ M 57 (4 * x) = 3)) ∧ r = some (vI (-1)) ∧ M' = M) ∨ ((0 ≤ x ∧ x < n) ∧ (0 ≤ y ∧ y < 5) ∧ sz y < 3 ∧ (y = 0 ∨ M 57 (4 * x) = y ∨ (y = 1 ∧ M 57 (4 * x) = 3)) ∧ r = some (vI (sz y + 1)) ∧ M' = upM M 64 (3 * y + sz y) x)) := by
  have hs := hK.sz
  have h6 := hK.n6
  refine cm_of (by decide +kernel) (fun _ => trivial) (Nat.le_of_ble_eq_true rfl) ?_
  first | refine ev_aload_n dX9_rack_0 rfl ?_ | refine ev_aloadX_n dX9_rack_0 rfl ?_
  refine ev_iload_n dX9_rack_1 rfl ?_
  refine ev_callv (ci := 9) (k_isStep hx M (by omega) (by omega)) dX9_rack_2 tX9_isStep.1 kX9_272 tX9_isStep.2.1 tX9_isStep.2.2.1 rfl (by first | rfl | assumption) tX9_isStep.2.2.2 ⟨⟨Nat.le_of_ble_eq_true rfl, Nat.le_of_ble_eq_true rfl⟩, Nat.le_of_ble_eq_true rfl, Nat.le_of_ble_eq_true rfl⟩ rfl (Nat.le_of_ble_eq_true rfl) ?_
  rintro r K' M' P' ⟨rfl, rfl, ⟨v2, rfl, hw2, hv2⟩, hM'⟩
  rw [hM']
  clear hM' M'
  refine ev_if_ne (tgt := 11) dX9_rack_5 (by decide) (by omega) (fun hb5 => ?_) (fun hb5 => ?_)
  · have g2 := hv2.mp (by omega)
    refine ev_iload_n dX9_rack_11 rfl ?_
    refine ev_i2l dX9_rack_12 (by omega) ?_
    refine ev_lconst (z := 0) dX9_rack_13 ?_
    refine ev_ldc2 (z := 4) dX9_rack_14 jX9_278 (by decide) ?_
    refine ev_calls (k_in (by omega) (by omega) (by omega) M) dX9_rack_17 tX9_in.1 kX9_60 tX9_in.2.1 tX9_in.2.2 ⟨⟨Nat.le_of_ble_eq_true rfl, Nat.le_of_ble_eq_true rfl⟩, Nat.le_of_ble_eq_true rfl, Nat.le_of_ble_eq_true rfl⟩ rfl (Nat.le_of_ble_eq_true rfl) ?_
    rintro r K' M' P' ⟨rfl, rfl, ⟨v17, rfl, hw17, hv17⟩, hM'⟩
    rw [hM']
    clear hM' M'
    refine ev_if_ne (tgt := 26) dX9_rack_20 (by decide) (by omega) (fun hb20 => ?_) (fun hb20 => ?_)
    · have g17 := hv17.mp (by omega)
      have hzy := (hz y (by omega) (by omega)).1
      first | refine ev_aload_n dX9_rack_26 rfl ?_ | refine ev_aloadX_n dX9_rack_26 rfl ?_
      refine ev_iload_n dX9_rack_27 rfl ?_
      refine ev_callv (ci := 9) (k_rackedOf (kd := y) (by omega) (by omega) M hK.rkb hz) dX9_rack_28 tX9_rackedOf.1 kX9_293 tX9_rackedOf.2.1 tX9_rackedOf.2.2.1 rfl (by first | rfl | assumption) tX9_rackedOf.2.2.2 ⟨⟨Nat.le_of_ble_eq_true rfl, Nat.le_of_ble_eq_true rfl⟩, Nat.le_of_ble_eq_true rfl, Nat.le_of_ble_eq_true rfl⟩ rfl (Nat.le_of_ble_eq_true rfl) ?_
      rintro r K' M' P' ⟨rfl, rfl, rfl, hM'⟩
      rw [hM']
      clear hM' M'
      refine ev_istore_n dX9_rack_31 (by decide) ?_
      refine ev_iload_n dX9_rack_32 rfl ?_
      refine ev_iconst dX9_rack_33 ?_
      refine ev_icmp_ne (tgt := 40) dX9_rack_34 (by decide) (by omega) (by omega) (fun hb34 => ?_) (fun hb34 => ?_)
      · first | refine ev_aload_n dX9_rack_40 rfl ?_ | refine ev_aloadX_n dX9_rack_40 rfl ?_
        refine ev_iload_n dX9_rack_41 rfl ?_
        refine ev_callv (ci := 9) (k_kind (by omega) (by omega) M) dX9_rack_42 tX9_kind.1 kX9_146 tX9_kind.2.1 tX9_kind.2.2.1 rfl (by first | rfl | assumption) tX9_kind.2.2.2 ⟨⟨Nat.le_of_ble_eq_true rfl, Nat.le_of_ble_eq_true rfl⟩, Nat.le_of_ble_eq_true rfl, Nat.le_of_ble_eq_true rfl⟩ rfl (Nat.le_of_ble_eq_true rfl) ?_
        rintro r K' M' P' ⟨rfl, rfl, rfl, hM'⟩
        rw [hM']
        clear hM' M'
        have hbk := hK.bd (4 * x) (by omega) (by omega)
        refine ev_iload_n dX9_rack_45 rfl ?_
        refine ev_calls (k_isOf (by omega) hy M) dX9_rack_46 tX9_isOf.1 kX9_280 tX9_isOf.2.1 tX9_isOf.2.2 ⟨⟨Nat.le_of_ble_eq_true rfl, Nat.le_of_ble_eq_true rfl⟩, Nat.le_of_ble_eq_true rfl, Nat.le_of_ble_eq_true rfl⟩ rfl (Nat.le_of_ble_eq_true rfl) ?_
        rintro r K' M' P' ⟨rfl, rfl, ⟨v46, rfl, hw46, hv46⟩, hM'⟩
        rw [hM']
        clear hM' M'
        refine ev_if_ne (tgt := 54) dX9_rack_49 (by decide) (by omega) (fun hb49 => ?_) (fun hb49 => ?_)
        · have g46 := hv46.mp (by omega)
          first | refine ev_aload_n dX9_rack_54 rfl ?_ | refine ev_aloadX_n dX9_rack_54 rfl ?_
          refine ev_getR dX9_rack_55 fX9_38 rfl (by first | rfl | assumption) (by first | rfl | assumption) ?_
          refine ev_iconst dX9_rack_58 ?_
          refine ev_iload_n dX9_rack_59 rfl ?_
          refine ev_imul dX9_rack_60 ?_
          refine ev_iload_n dX9_rack_61 rfl ?_
          refine ev_iadd dX9_rack_62 ?_
          refine ev_iload_n dX9_rack_63 rfl ?_
          refine ev_iastore dX9_rack_64 (by first | rfl | assumption) (by omega) (by omega) (by decide) ?_
          refine ev_iload_n dX9_rack_65 rfl ?_
          refine ev_iconst dX9_rack_66 ?_
          refine ev_iadd dX9_rack_67 ?_
          exact ev_ireturn dX9_rack_68 ⟨_, rfl, rfl⟩ (rz (Or.inr (Or.inr (Or.inr (Or.inr ⟨by omega, by omega, by omega, g46, rfl, rfl⟩)))))
        · have g46 := (not_congr hv46).mp (by omega)
          refine ev_iconst dX9_rack_52 ?_
          exact ev_ireturn dX9_rack_53 ⟨_, rfl, rfl⟩ (rz (Or.inr (Or.inr (Or.inr (Or.inl ⟨by omega, by omega, by omega, g46, rfl, rfl⟩)))))
      · refine ev_bipush dX9_rack_37 ?_
        exact ev_ireturn dX9_rack_39 ⟨_, rfl, rfl⟩ (rz (Or.inr (Or.inr (Or.inl ⟨by omega, by omega, by omega, rfl, rfl⟩))))
    · have g17 := (not_congr hv17).mp (by omega)
      refine ev_bipush dX9_rack_23 ?_
      exact ev_ireturn dX9_rack_25 ⟨_, rfl, rfl⟩ (rz (Or.inr (Or.inl ⟨by omega, by omega, rfl, rfl⟩)))
  · have g2 := (not_congr hv2).mp (by omega)
    refine ev_bipush dX9_rack_8 ?_
    exact ev_ireturn dX9_rack_10 ⟨_, rfl, rfl⟩ (rz (Or.inl ⟨by omega, rfl, rfl⟩))
def seeM (M : Mm) (x y z : Int) : Mm := upM (upM (upM (upM M 65 (3 * M 54 20) x) 65 (3 * M 54 20 + 1) y) 65 (3 * M 54 20 + 2) z) 54 20 (M 54 20 + 1)
theorem k_see {n : Nat} {x y z : Int} (hx : inR x) (hy : inR y) (hz : z = 0 ∨ z = 1) (M : Mm) (hK : KI M n) : Cm mX9_see [vR 54, vI x, vI y, vI z] M (fun r M' => ((x < 0 ∨ n ≤ x) ∧ r = some (vI (-101)) ∧ M' = M) ∨ ((0 ≤ x ∧ x < n) ∧ (y < 0 ∨ 4 ≤ y) ∧ r = some (vI (-102)) ∧ M' = M) ∨ ((0 ≤ x ∧ x < n) ∧ (0 ≤ y ∧ y < 4) ∧ M 54 20 = 6 ∧ r = some (vI (-104)) ∧ M' = M) ∨ ((0 ≤ x ∧ x < n) ∧ (0 ≤ y ∧ y < 4) ∧ M 54 20 < 6 ∧ r = some (vI (M 54 20 + 1)) ∧ M' = seeM M x y z)) := by
  have hs := hK.sz
  have h6 := hK.n6
  have s0 := hK.sn0
  have s1 := hK.sn1
  have hz1 : z ≠ 0 → z = 1 := fun h => by omega
  have u54 : ∀ (X : Mm) (i w j : Int), upM X 65 i w 54 j = X 54 j := fun X i w j => upM_n (Or.inl (by decide))
  have e1 : ∀ X : Mm, upM X 54 20 (M 54 20 + 1) 54 20 = M 54 20 + 1 := fun X => upM_s _ _ _ _
  refine cm_of (by decide +kernel) (fun _ => trivial) (Nat.le_of_ble_eq_true rfl) ?_
  first | refine ev_aload_n dX9_see_0 rfl ?_ | refine ev_aloadX_n dX9_see_0 rfl ?_
  refine ev_iload_n dX9_see_1 rfl ?_
  refine ev_callv (ci := 9) (k_isStep hx M (by omega) (by omega)) dX9_see_2 tX9_isStep.1 kX9_272 tX9_isStep.2.1 tX9_isStep.2.2.1 rfl (by first | rfl | assumption) tX9_isStep.2.2.2 ⟨⟨Nat.le_of_ble_eq_true rfl, Nat.le_of_ble_eq_true rfl⟩, Nat.le_of_ble_eq_true rfl, Nat.le_of_ble_eq_true rfl⟩ rfl (Nat.le_of_ble_eq_true rfl) ?_
  rintro r K' M' P' ⟨rfl, rfl, ⟨v2, rfl, hw2, hv2⟩, hM'⟩
  rw [hM']
  clear hM' M'
  refine ev_if_ne (tgt := 11) dX9_see_5 (by decide) (by omega) (fun hb5 => ?_) (fun hb5 => ?_)
  · have g2 := hv2.mp (by omega)
    refine ev_iload_n dX9_see_11 rfl ?_
    refine ev_i2l dX9_see_12 (by omega) ?_
    refine ev_lconst (z := 0) dX9_see_13 ?_
    refine ev_ldc2 (z := 3) dX9_see_14 jX9_283 (by decide) ?_
    refine ev_calls (k_in (by omega) (by omega) (by omega) M) dX9_see_17 tX9_in.1 kX9_60 tX9_in.2.1 tX9_in.2.2 ⟨⟨Nat.le_of_ble_eq_true rfl, Nat.le_of_ble_eq_true rfl⟩, Nat.le_of_ble_eq_true rfl, Nat.le_of_ble_eq_true rfl⟩ rfl (Nat.le_of_ble_eq_true rfl) ?_
    rintro r K' M' P' ⟨rfl, rfl, ⟨v17, rfl, hw17, hv17⟩, hM'⟩
    rw [hM']
    clear hM' M'
    refine ev_if_ne (tgt := 26) dX9_see_20 (by decide) (by omega) (fun hb20 => ?_) (fun hb20 => ?_)
    · have g17 := hv17.mp (by omega)
      first | refine ev_aload_n dX9_see_26 rfl ?_ | refine ev_aloadX_n dX9_see_26 rfl ?_
      refine ev_gI 20 dX9_see_27 fX9_133 rfl (by first | rfl | assumption) rfl ?_
      refine ev_bipush dX9_see_30 ?_
      refine ev_icmp_ne (tgt := 38) dX9_see_32 (by decide) (by omega) (by omega) (fun hb32 => ?_) (fun hb32 => ?_)
      · first | refine ev_aload_n dX9_see_38 rfl ?_ | refine ev_aloadX_n dX9_see_38 rfl ?_
        refine ev_getR dX9_see_39 fX9_41 rfl (by first | rfl | assumption) (by first | rfl | assumption) ?_
        refine ev_iconst dX9_see_42 ?_
        first | refine ev_aload_n dX9_see_43 rfl ?_ | refine ev_aloadX_n dX9_see_43 rfl ?_
        refine ev_gI 20 dX9_see_44 fX9_133 rfl (by first | rfl | assumption) rfl ?_
        refine ev_imul dX9_see_47 ?_
        refine ev_iload_n dX9_see_48 rfl ?_
        refine ev_iastore dX9_see_49 (by first | rfl | assumption) (by omega) (by omega) (by decide) ?_
        first | refine ev_aload_n dX9_see_50 rfl ?_ | refine ev_aloadX_n dX9_see_50 rfl ?_
        refine ev_getR dX9_see_51 fX9_41 rfl (by first | rfl | assumption) (by first | rfl | assumption) ?_
        refine ev_iconst dX9_see_54 ?_
        first | refine ev_aload_n dX9_see_55 rfl ?_ | refine ev_aloadX_n dX9_see_55 rfl ?_
        refine ev_gI 20 dX9_see_56 fX9_133 rfl (by first | rfl | assumption) rfl ?_
        rw [u54]
        refine ev_imul dX9_see_59 ?_
        refine ev_iconst dX9_see_60 ?_
        refine ev_iadd dX9_see_61 ?_
        refine ev_iload_n dX9_see_62 rfl ?_
        refine ev_iastore dX9_see_63 (by first | rfl | assumption) (by omega) (by omega) (by decide) ?_
        first | refine ev_aload_n dX9_see_64 rfl ?_ | refine ev_aloadX_n dX9_see_64 rfl ?_
        refine ev_getR dX9_see_65 fX9_41 rfl (by first | rfl | assumption) (by first | rfl | assumption) ?_
        refine ev_iconst dX9_see_68 ?_
        first | refine ev_aload_n dX9_see_69 rfl ?_ | refine ev_aloadX_n dX9_see_69 rfl ?_
        refine ev_gI 20 dX9_see_70 fX9_133 rfl (by first | rfl | assumption) rfl ?_
        rw [u54, u54]
        refine ev_imul dX9_see_73 ?_
        refine ev_iconst dX9_see_74 ?_
        refine ev_iadd dX9_see_75 ?_
        refine ev_iload_n dX9_see_76 rfl ?_
        refine ev_if_eq (tgt := 84) dX9_see_77 (by decide) (by omega) (fun hb77 => ?_) (fun hb77 => ?_)
        · refine ev_iconst dX9_see_84 ?_
          refine ev_iastore dX9_see_85 (by first | rfl | assumption) (by omega) (by omega) (by decide) ?_
          first | refine ev_aload_n dX9_see_86 rfl ?_ | refine ev_aloadX_n dX9_see_86 rfl ?_
          refine ev_dup dX9_see_87 ?_
          refine ev_gI 20 dX9_see_88 fX9_133 rfl (by first | rfl | assumption) rfl ?_
          rw [u54, u54, u54]
          refine ev_iconst dX9_see_91 ?_
          refine ev_iadd dX9_see_92 ?_
          refine ev_pI 20 dX9_see_93 sX9_133 rfl (by first | rfl | assumption) rfl ?_
          first | refine ev_aload_n dX9_see_96 rfl ?_ | refine ev_aloadX_n dX9_see_96 rfl ?_
          refine ev_gI 20 dX9_see_97 fX9_133 rfl (by first | rfl | assumption) rfl ?_
          rw [e1]
          exact ev_ireturn dX9_see_100 ⟨_, rfl, rfl⟩ (rz (Or.inr (Or.inr (Or.inr ⟨by omega, by omega, by omega, rfl, by unfold seeM; first | (rw [hz1 hb77]) | (rw [hb77])⟩))))
        · refine ev_iconst dX9_see_80 ?_
          refine ev_goto (tgt := 85) dX9_see_81 (by decide) ?_
          refine ev_iastore dX9_see_85 (by first | rfl | assumption) (by omega) (by omega) (by decide) ?_
          first | refine ev_aload_n dX9_see_86 rfl ?_ | refine ev_aloadX_n dX9_see_86 rfl ?_
          refine ev_dup dX9_see_87 ?_
          refine ev_gI 20 dX9_see_88 fX9_133 rfl (by first | rfl | assumption) rfl ?_
          rw [u54, u54, u54]
          refine ev_iconst dX9_see_91 ?_
          refine ev_iadd dX9_see_92 ?_
          refine ev_pI 20 dX9_see_93 sX9_133 rfl (by first | rfl | assumption) rfl ?_
          first | refine ev_aload_n dX9_see_96 rfl ?_ | refine ev_aloadX_n dX9_see_96 rfl ?_
          refine ev_gI 20 dX9_see_97 fX9_133 rfl (by first | rfl | assumption) rfl ?_
          rw [e1]
          exact ev_ireturn dX9_see_100 ⟨_, rfl, rfl⟩ (rz (Or.inr (Or.inr (Or.inr ⟨by omega, by omega, by omega, rfl, by unfold seeM; first | (rw [hz1 hb77]) | (rw [hb77])⟩))))
      · refine ev_bipush dX9_see_35 ?_
        exact ev_ireturn dX9_see_37 ⟨_, rfl, rfl⟩ (rz (Or.inr (Or.inr (Or.inl ⟨by omega, by omega, by omega, rfl, rfl⟩))))
    · have g17 := (not_congr hv17).mp (by omega)
      refine ev_bipush dX9_see_23 ?_
      exact ev_ireturn dX9_see_25 ⟨_, rfl, rfl⟩ (rz (Or.inr (Or.inl ⟨by omega, by omega, rfl, rfl⟩)))
  · have g2 := (not_congr hv2).mp (by omega)
    refine ev_bipush dX9_see_8 ?_
    exact ev_ireturn dX9_see_10 ⟨_, rfl, rfl⟩ (rz (Or.inl ⟨by omega, rfl, rfl⟩))
def imkM (M : Mm) : Mm := upM (upM (upM (rwc (rwc M 66 (cpS 24 (M 57) (M 66))) 67 (cpS 18 (M 65) (M 67))) 54 24 (M 54 8)) 54 25 (M 54 20)) 54 23 (M 54 9)
theorem k_image {n : Nat} (M : Mm) (hK : KI M n) : Cm mX9_image [vR 54] M (fun r M' => (n = 0 ∧ r = some (vI (-103)) ∧ M' = M) ∨ (0 < n ∧ r = some (vI (n : Int)) ∧ M' = imkM M)) := by
  have hs := hK.sz
  have h6 := hK.n6
  have u54 : ∀ (X : Mm) (i w j : Int), j ≠ i → upM X 54 i w 54 j = X 54 j := fun X i w j h => upM_n (Or.inr h)
  have r54 : ∀ (X : Mm) (f : Int → Int) (j : Int), rwc X 66 f 54 j = X 54 j := fun X f j => by rw [rwc_ne (by decide)]
  have t54 : ∀ (X : Mm) (f : Int → Int) (j : Int), rwc X 67 f 54 j = X 54 j := fun X f j => by rw [rwc_ne (by decide)]
  refine cm_of (by decide +kernel) (fun _ => trivial) (Nat.le_of_ble_eq_true rfl) ?_
  first | refine ev_aload_n dX9_image_0 rfl ?_ | refine ev_aloadX_n dX9_image_0 rfl ?_
  refine ev_callv (ci := 9) (k_lacks M (by omega)) dX9_image_1 tX9_lacks.1 kX9_222 tX9_lacks.2.1 tX9_lacks.2.2.1 rfl (by first | rfl | assumption) tX9_lacks.2.2.2 ⟨⟨Nat.le_of_ble_eq_true rfl, Nat.le_of_ble_eq_true rfl⟩, Nat.le_of_ble_eq_true rfl, Nat.le_of_ble_eq_true rfl⟩ rfl (Nat.le_of_ble_eq_true rfl) ?_
  rintro r K' M' P' ⟨rfl, rfl, ⟨v1, rfl, hw1, hv1⟩, hM'⟩
  rw [hM']
  clear hM' M'
  refine ev_if_eq (tgt := 10) dX9_image_4 (by decide) (by omega) (fun hb4 => ?_) (fun hb4 => ?_)
  · have g1 := (not_congr hv1).mp (by omega)
    first | refine ev_aload_n dX9_image_10 rfl ?_ | refine ev_aloadX_n dX9_image_10 rfl ?_
    refine ev_getR dX9_image_11 fX9_16 rfl (by first | rfl | assumption) (by first | rfl | assumption) ?_
    first | refine ev_aload_n dX9_image_14 rfl ?_ | refine ev_aloadX_n dX9_image_14 rfl ?_
    refine ev_getR dX9_image_15 fX9_44 rfl (by first | rfl | assumption) (by first | rfl | assumption) ?_
    refine ev_calls (k_copy (c := 57) (c2 := 66) (N := 24) rfl rfl (by decide) (by decide) M) dX9_image_18 tX9_copy.1 kX9_129 tX9_copy.2.1 tX9_copy.2.2 ⟨⟨Nat.le_of_ble_eq_true rfl, Nat.le_of_ble_eq_true rfl⟩, Nat.le_of_ble_eq_true rfl, Nat.le_of_ble_eq_true rfl⟩ rfl (Nat.le_of_ble_eq_true rfl) ?_
    rintro r K' M' P' ⟨rfl, rfl, rfl, hM'⟩
    rw [hM']
    clear hM' M'
    first | refine ev_aload_n dX9_image_21 rfl ?_ | refine ev_aloadX_n dX9_image_21 rfl ?_
    refine ev_getR dX9_image_22 fX9_41 rfl (by first | rfl | assumption) (by first | rfl | assumption) ?_
    first | refine ev_aload_n dX9_image_25 rfl ?_ | refine ev_aloadX_n dX9_image_25 rfl ?_
    refine ev_getR dX9_image_26 fX9_47 rfl (by first | rfl | assumption) (by first | rfl | assumption) ?_
    refine ev_calls (k_copy (c := 65) (c2 := 67) (N := 18) rfl rfl (by decide) (by decide) _) dX9_image_29 tX9_copy.1 kX9_129 tX9_copy.2.1 tX9_copy.2.2 ⟨⟨Nat.le_of_ble_eq_true rfl, Nat.le_of_ble_eq_true rfl⟩, Nat.le_of_ble_eq_true rfl, Nat.le_of_ble_eq_true rfl⟩ rfl (Nat.le_of_ble_eq_true rfl) ?_
    rintro r K' M' P' ⟨rfl, rfl, rfl, hM'⟩
    rw [hM']
    clear hM' M'
    rw [rwc_ne (show (65 : Nat) ≠ 66 by decide), rwc_ne (show (67 : Nat) ≠ 66 by decide)]
    first | refine ev_aload_n dX9_image_32 rfl ?_ | refine ev_aloadX_n dX9_image_32 rfl ?_
    first | refine ev_aload_n dX9_image_33 rfl ?_ | refine ev_aloadX_n dX9_image_33 rfl ?_
    refine ev_gI 8 dX9_image_34 fX9_126 rfl (by first | rfl | assumption) rfl ?_
    rw [t54, r54]
    refine ev_pI 24 dX9_image_37 sX9_319 rfl (by first | rfl | assumption) rfl ?_
    first | refine ev_aload_n dX9_image_40 rfl ?_ | refine ev_aloadX_n dX9_image_40 rfl ?_
    first | refine ev_aload_n dX9_image_41 rfl ?_ | refine ev_aloadX_n dX9_image_41 rfl ?_
    refine ev_gI 20 dX9_image_42 fX9_133 rfl (by first | rfl | assumption) rfl ?_
    rw [u54 _ _ _ _ (by decide), t54, r54]
    refine ev_pI 25 dX9_image_45 sX9_322 rfl (by first | rfl | assumption) rfl ?_
    first | refine ev_aload_n dX9_image_48 rfl ?_ | refine ev_aloadX_n dX9_image_48 rfl ?_
    first | refine ev_aload_n dX9_image_49 rfl ?_ | refine ev_aloadX_n dX9_image_49 rfl ?_
    refine ev_gI 9 dX9_image_50 fX9_136 rfl (by first | rfl | assumption) rfl ?_
    rw [u54 _ _ _ _ (by decide), u54 _ _ _ _ (by decide), t54, r54]
    refine ev_pI 23 dX9_image_53 sX9_50 rfl (by first | rfl | assumption) rfl ?_
    first | refine ev_aload_n dX9_image_56 rfl ?_ | refine ev_aloadX_n dX9_image_56 rfl ?_
    refine ev_gI 8 dX9_image_57 fX9_126 rfl (by first | rfl | assumption) rfl ?_
    rw [u54 _ _ _ _ (by decide), u54 _ _ _ _ (by decide), u54 _ _ _ _ (by decide), t54, r54, hs]
    exact ev_ireturn dX9_image_60 ⟨_, rfl, rfl⟩ (rz (Or.inr ⟨by omega, rfl, by unfold imkM; rw [hs]; rfl⟩))
  · have g1 := hv1.mp (by omega)
    refine ev_bipush dX9_image_7 ?_
    exact ev_ireturn dX9_image_9 ⟨_, rfl, rfl⟩ (rz (Or.inl ⟨by omega, rfl, rfl⟩))
def rsmM (M : Mm) : Mm := upM (upM (rwc (rwc M 57 (cpS 24 (M 66) (M 57))) 65 (cpS 18 (M 67) (M 65))) 54 8 (M 54 24)) 54 20 (M 54 25)
theorem k_restore {n : Nat} (M : Mm) (hK : KI M n) : Cm mX9_restore [vR 54] M (fun r M' => (M 54 23 ≠ M 54 9 ∧ r = some (vI (-103)) ∧ M' = M) ∨ (M 54 23 = M 54 9 ∧ r = some (vI (M 54 24)) ∧ M' = chM (rsmM M))) := by
  have hp := hK.pr
  have hk := hK.kp
  have u54 : ∀ (X : Mm) (i w j : Int), j ≠ i → upM X 54 i w 54 j = X 54 j := fun X i w j h => upM_n (Or.inr h)
  have r54 : ∀ (X : Mm) (f : Int → Int) (j : Int), rwc X 57 f 54 j = X 54 j := fun X f j => by rw [rwc_ne (by decide)]
  have t54 : ∀ (X : Mm) (f : Int → Int) (j : Int), rwc X 65 f 54 j = X 54 j := fun X f j => by rw [rwc_ne (by decide)]
  have c8 : chM (rsmM M) 54 8 = M 54 24 := by
    unfold chM rsmM
    rw [rwc_ne (by decide), u54 _ _ _ _ (by decide), u54 _ _ _ _ (by decide), upM_s]
  refine cm_of (by decide +kernel) (fun _ => trivial) (Nat.le_of_ble_eq_true rfl) ?_
  first | refine ev_aload_n dX9_restore_0 rfl ?_ | refine ev_aloadX_n dX9_restore_0 rfl ?_
  refine ev_gI 23 dX9_restore_1 fX9_50 rfl (by first | rfl | assumption) rfl ?_
  first | refine ev_aload_n dX9_restore_4 rfl ?_ | refine ev_aloadX_n dX9_restore_4 rfl ?_
  refine ev_gI 9 dX9_restore_5 fX9_136 rfl (by first | rfl | assumption) rfl ?_
  refine ev_icmp_eq (tgt := 14) dX9_restore_8 (by decide) (by omega) (by omega) (fun hb8 => ?_) (fun hb8 => ?_)
  · first | refine ev_aload_n dX9_restore_14 rfl ?_ | refine ev_aloadX_n dX9_restore_14 rfl ?_
    refine ev_getR dX9_restore_15 fX9_44 rfl (by first | rfl | assumption) (by first | rfl | assumption) ?_
    first | refine ev_aload_n dX9_restore_18 rfl ?_ | refine ev_aloadX_n dX9_restore_18 rfl ?_
    refine ev_getR dX9_restore_19 fX9_16 rfl (by first | rfl | assumption) (by first | rfl | assumption) ?_
    refine ev_calls (k_copy (c := 66) (c2 := 57) (N := 24) rfl rfl (by decide) (by decide) M) dX9_restore_22 tX9_copy.1 kX9_129 tX9_copy.2.1 tX9_copy.2.2 ⟨⟨Nat.le_of_ble_eq_true rfl, Nat.le_of_ble_eq_true rfl⟩, Nat.le_of_ble_eq_true rfl, Nat.le_of_ble_eq_true rfl⟩ rfl (Nat.le_of_ble_eq_true rfl) ?_
    rintro r K' M' P' ⟨rfl, rfl, rfl, hM'⟩
    rw [hM']
    clear hM' M'
    first | refine ev_aload_n dX9_restore_25 rfl ?_ | refine ev_aloadX_n dX9_restore_25 rfl ?_
    refine ev_getR dX9_restore_26 fX9_47 rfl (by first | rfl | assumption) (by first | rfl | assumption) ?_
    first | refine ev_aload_n dX9_restore_29 rfl ?_ | refine ev_aloadX_n dX9_restore_29 rfl ?_
    refine ev_getR dX9_restore_30 fX9_41 rfl (by first | rfl | assumption) (by first | rfl | assumption) ?_
    refine ev_calls (k_copy (c := 67) (c2 := 65) (N := 18) rfl rfl (by decide) (by decide) _) dX9_restore_33 tX9_copy.1 kX9_129 tX9_copy.2.1 tX9_copy.2.2 ⟨⟨Nat.le_of_ble_eq_true rfl, Nat.le_of_ble_eq_true rfl⟩, Nat.le_of_ble_eq_true rfl, Nat.le_of_ble_eq_true rfl⟩ rfl (Nat.le_of_ble_eq_true rfl) ?_
    rintro r K' M' P' ⟨rfl, rfl, rfl, hM'⟩
    rw [hM']
    clear hM' M'
    rw [rwc_ne (show (67 : Nat) ≠ 57 by decide), rwc_ne (show (65 : Nat) ≠ 57 by decide)]
    first | refine ev_aload_n dX9_restore_36 rfl ?_ | refine ev_aloadX_n dX9_restore_36 rfl ?_
    first | refine ev_aload_n dX9_restore_37 rfl ?_ | refine ev_aloadX_n dX9_restore_37 rfl ?_
    refine ev_gI 24 dX9_restore_38 fX9_319 rfl (by first | rfl | assumption) rfl ?_
    rw [t54, r54]
    refine ev_pI 8 dX9_restore_41 sX9_126 rfl (by first | rfl | assumption) rfl ?_
    first | refine ev_aload_n dX9_restore_44 rfl ?_ | refine ev_aloadX_n dX9_restore_44 rfl ?_
    first | refine ev_aload_n dX9_restore_45 rfl ?_ | refine ev_aloadX_n dX9_restore_45 rfl ?_
    refine ev_gI 25 dX9_restore_46 fX9_322 rfl (by first | rfl | assumption) rfl ?_
    rw [u54 _ _ _ _ (by decide), t54, r54]
    refine ev_pI 20 dX9_restore_49 sX9_133 rfl (by first | rfl | assumption) rfl ?_
    first | refine ev_aload_n dX9_restore_52 rfl ?_ | refine ev_aloadX_n dX9_restore_52 rfl ?_
    refine ev_callv (ci := 9) (k_changed (rsmM M)) dX9_restore_53 tX9_changed.1 kX9_139 tX9_changed.2.1 tX9_changed.2.2.1 rfl (by first | rfl | assumption) tX9_changed.2.2.2 ⟨⟨Nat.le_of_ble_eq_true rfl, Nat.le_of_ble_eq_true rfl⟩, Nat.le_of_ble_eq_true rfl, Nat.le_of_ble_eq_true rfl⟩ rfl (Nat.le_of_ble_eq_true rfl) ?_
    rintro r K' M' P' ⟨rfl, rfl, rfl, hM'⟩
    rw [hM']
    clear hM' M'
    first | refine ev_aload_n dX9_restore_56 rfl ?_ | refine ev_aloadX_n dX9_restore_56 rfl ?_
    refine ev_gI 8 dX9_restore_57 fX9_126 rfl (by first | rfl | assumption) rfl ?_
    rw [c8]
    exact ev_ireturn dX9_restore_60 ⟨_, rfl, rfl⟩ (rz (Or.inr ⟨by omega, rfl, rfl⟩))
  · refine ev_bipush dX9_restore_11 ?_
    exact ev_ireturn dX9_restore_13 ⟨_, rfl, rfl⟩ (rz (Or.inl ⟨by omega, rfl, rfl⟩))
