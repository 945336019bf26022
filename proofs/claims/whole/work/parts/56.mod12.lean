/-! ===== the reference: put, take, by ===== -/
theorem k_isAsTold {kd a b z : Int} (h1 : inR kd) (h2 : inR a) (h3 : inR b) (h4 : inR z) (M : Mm) : Cm mX9_isAsTold [vI kd, vI a, vI b, vI z] M (fun r M' => yn (putP kd a b z) r ∧ M' = M) := by
  refine cm_of (by decide +kernel) (fun _ => trivial) (Nat.le_of_ble_eq_true rfl) ?_
  refine ev_iload_n dX9_isAsTold_0 rfl ?_
  refine ev_iconst dX9_isAsTold_1 ?_
  refine ev_icmp_gt (tgt := 17) dX9_isAsTold_2 (by decide) (by omega) (by omega) (fun hb2 => ?_) (fun hb2 => ?_)
  · refine ev_iconst dX9_isAsTold_17 ?_
    refine ev_goto (tgt := 22) dX9_isAsTold_18 (by decide) ?_
    refine ev_istore dX9_isAsTold_22 (by decide) ?_
    refine ev_iload_n dX9_isAsTold_24 rfl ?_
    refine ev_i2l dX9_isAsTold_25 (by omega) ?_
    refine ev_lconst (z := 0) dX9_isAsTold_26 ?_
    refine ev_ldc2 (z := 3) dX9_isAsTold_27 jX9_283 (by decide) ?_
    refine ev_calls (k_in (by omega) (by omega) (by omega) M) dX9_isAsTold_30 tX9_in.1 kX9_60 tX9_in.2.1 tX9_in.2.2 ⟨⟨Nat.le_of_ble_eq_true rfl, Nat.le_of_ble_eq_true rfl⟩, Nat.le_of_ble_eq_true rfl, Nat.le_of_ble_eq_true rfl⟩ rfl (Nat.le_of_ble_eq_true rfl) ?_
    rintro r K' M' P' ⟨rfl, rfl, ⟨v30, rfl, hw30, hv30⟩, hM'⟩
    rw [hM']
    clear hM' M'
    refine ev_if_eq (tgt := 86) dX9_isAsTold_33 (by decide) (by omega) (fun hb33 => ?_) (fun hb33 => ?_)
    · have g30 := (not_congr hv30).mp (by omega)
      refine ev_iconst dX9_isAsTold_86 ?_
      exact ev_ireturn dX9_isAsTold_87 (okR_z rfl (by first | exact Or.inl rfl | exact Or.inr rfl | assumption)) (rz (by first | exact ⟨yn_1 (by unfold putP; split <;> omega), rfl⟩ | exact ⟨yn_0 (by unfold putP; split <;> omega), rfl⟩))
    · have g30 := hv30.mp (by omega)
      refine ev_iload_n dX9_isAsTold_36 rfl ?_
      refine ev_i2l dX9_isAsTold_37 (by omega) ?_
      refine ev_lconst (z := 0) dX9_isAsTold_38 ?_
      refine ev_iload_n dX9_isAsTold_39 rfl ?_
      refine ev_if_ne (tgt := 49) dX9_isAsTold_40 (by decide) (by omega) (fun hb40 => ?_) (fun hb40 => ?_)
      · refine ev_ldc2 (z := 2) dX9_isAsTold_49 jX9_247 (by decide) ?_
        refine ev_calls (k_in (by omega) (by omega) (by omega) M) dX9_isAsTold_52 tX9_in.1 kX9_60 tX9_in.2.1 tX9_in.2.2 ⟨⟨Nat.le_of_ble_eq_true rfl, Nat.le_of_ble_eq_true rfl⟩, Nat.le_of_ble_eq_true rfl, Nat.le_of_ble_eq_true rfl⟩ rfl (Nat.le_of_ble_eq_true rfl) ?_
        rintro r K' M' P' ⟨rfl, rfl, ⟨v52, rfl, hw52, hv52⟩, hM'⟩
        rw [hM']
        clear hM' M'
        refine ev_if_eq (tgt := 86) dX9_isAsTold_55 (by decide) (by omega) (fun hb55 => ?_) (fun hb55 => ?_)
        · have g52 := (not_congr hv52).mp (by omega)
          refine ev_iconst dX9_isAsTold_86 ?_
          exact ev_ireturn dX9_isAsTold_87 (okR_z rfl (by first | exact Or.inl rfl | exact Or.inr rfl | assumption)) (rz (by first | exact ⟨yn_1 (by unfold putP; split <;> omega), rfl⟩ | exact ⟨yn_0 (by unfold putP; split <;> omega), rfl⟩))
        · have g52 := hv52.mp (by omega)
          refine ev_iload dX9_isAsTold_58 rfl ?_
          refine ev_if_eq (tgt := 86) dX9_isAsTold_60 (by decide) (by omega) (fun hb60 => ?_) (fun hb60 => ?_)
          · refine ev_iconst dX9_isAsTold_86 ?_
            exact ev_ireturn dX9_isAsTold_87 (okR_z rfl (by first | exact Or.inl rfl | exact Or.inr rfl | assumption)) (rz (by first | exact ⟨yn_1 (by unfold putP; split <;> omega), rfl⟩ | exact ⟨yn_0 (by unfold putP; split <;> omega), rfl⟩))
          · refine ev_iload_n dX9_isAsTold_63 rfl ?_
            refine ev_iconst dX9_isAsTold_64 ?_
            refine ev_icmp_eq (tgt := 82) dX9_isAsTold_65 (by decide) (by omega) (by omega) (fun hb65 => ?_) (fun hb65 => ?_)
            · refine ev_iconst dX9_isAsTold_82 ?_
              refine ev_goto (tgt := 87) dX9_isAsTold_83 (by decide) ?_
              exact ev_ireturn dX9_isAsTold_87 (okR_z rfl (by first | exact Or.inl rfl | exact Or.inr rfl | assumption)) (rz (by first | exact ⟨yn_1 (by unfold putP; split <;> omega), rfl⟩ | exact ⟨yn_0 (by unfold putP; split <;> omega), rfl⟩))
            · refine ev_iload_n dX9_isAsTold_68 rfl ?_
              refine ev_i2l dX9_isAsTold_69 (by omega) ?_
              refine ev_ldc2 (z := -9) dX9_isAsTold_70 jX9_285 (by decide) ?_
              refine ev_ldc2 (z := 9) dX9_isAsTold_73 jX9_287 (by decide) ?_
              refine ev_calls (k_in (by omega) (by omega) (by omega) M) dX9_isAsTold_76 tX9_in.1 kX9_60 tX9_in.2.1 tX9_in.2.2 ⟨⟨Nat.le_of_ble_eq_true rfl, Nat.le_of_ble_eq_true rfl⟩, Nat.le_of_ble_eq_true rfl, Nat.le_of_ble_eq_true rfl⟩ rfl (Nat.le_of_ble_eq_true rfl) ?_
              rintro r K' M' P' ⟨rfl, rfl, ⟨v76, rfl, hw76, hv76⟩, hM'⟩
              rw [hM']
              clear hM' M'
              refine ev_if_eq (tgt := 86) dX9_isAsTold_79 (by decide) (by omega) (fun hb79 => ?_) (fun hb79 => ?_)
              · have g76 := (not_congr hv76).mp (by omega)
                refine ev_iconst dX9_isAsTold_86 ?_
                exact ev_ireturn dX9_isAsTold_87 (okR_z rfl (by first | exact Or.inl rfl | exact Or.inr rfl | assumption)) (rz (by first | exact ⟨yn_1 (by unfold putP; split <;> omega), rfl⟩ | exact ⟨yn_0 (by unfold putP; split <;> omega), rfl⟩))
              · have g76 := hv76.mp (by omega)
                refine ev_iconst dX9_isAsTold_82 ?_
                refine ev_goto (tgt := 87) dX9_isAsTold_83 (by decide) ?_
                exact ev_ireturn dX9_isAsTold_87 (okR_z rfl (by first | exact Or.inl rfl | exact Or.inr rfl | assumption)) (rz (by first | exact ⟨yn_1 (by unfold putP; split <;> omega), rfl⟩ | exact ⟨yn_0 (by unfold putP; split <;> omega), rfl⟩))
      · refine ev_ldc2 (z := 5) dX9_isAsTold_43 jX9_235 (by decide) ?_
        refine ev_goto (tgt := 52) dX9_isAsTold_46 (by decide) ?_
        refine ev_calls (k_in (by omega) (by omega) (by omega) M) dX9_isAsTold_52 tX9_in.1 kX9_60 tX9_in.2.1 tX9_in.2.2 ⟨⟨Nat.le_of_ble_eq_true rfl, Nat.le_of_ble_eq_true rfl⟩, Nat.le_of_ble_eq_true rfl, Nat.le_of_ble_eq_true rfl⟩ rfl (Nat.le_of_ble_eq_true rfl) ?_
        rintro r K' M' P' ⟨rfl, rfl, ⟨v52, rfl, hw52, hv52⟩, hM'⟩
        rw [hM']
        clear hM' M'
        refine ev_if_eq (tgt := 86) dX9_isAsTold_55 (by decide) (by omega) (fun hb55 => ?_) (fun hb55 => ?_)
        · have g52 := (not_congr hv52).mp (by omega)
          refine ev_iconst dX9_isAsTold_86 ?_
          exact ev_ireturn dX9_isAsTold_87 (okR_z rfl (by first | exact Or.inl rfl | exact Or.inr rfl | assumption)) (rz (by first | exact ⟨yn_1 (by unfold putP; split <;> omega), rfl⟩ | exact ⟨yn_0 (by unfold putP; split <;> omega), rfl⟩))
        · have g52 := hv52.mp (by omega)
          refine ev_iload dX9_isAsTold_58 rfl ?_
          refine ev_if_eq (tgt := 86) dX9_isAsTold_60 (by decide) (by omega) (fun hb60 => ?_) (fun hb60 => ?_)
          · refine ev_iconst dX9_isAsTold_86 ?_
            exact ev_ireturn dX9_isAsTold_87 (okR_z rfl (by first | exact Or.inl rfl | exact Or.inr rfl | assumption)) (rz (by first | exact ⟨yn_1 (by unfold putP; split <;> omega), rfl⟩ | exact ⟨yn_0 (by unfold putP; split <;> omega), rfl⟩))
          · refine ev_iload_n dX9_isAsTold_63 rfl ?_
            refine ev_iconst dX9_isAsTold_64 ?_
            refine ev_icmp_eq (tgt := 82) dX9_isAsTold_65 (by decide) (by omega) (by omega) (fun hb65 => ?_) (fun hb65 => ?_)
            · refine ev_iconst dX9_isAsTold_82 ?_
              refine ev_goto (tgt := 87) dX9_isAsTold_83 (by decide) ?_
              exact ev_ireturn dX9_isAsTold_87 (okR_z rfl (by first | exact Or.inl rfl | exact Or.inr rfl | assumption)) (rz (by first | exact ⟨yn_1 (by unfold putP; split <;> omega), rfl⟩ | exact ⟨yn_0 (by unfold putP; split <;> omega), rfl⟩))
            · refine ev_iload_n dX9_isAsTold_68 rfl ?_
              refine ev_i2l dX9_isAsTold_69 (by omega) ?_
              refine ev_ldc2 (z := -9) dX9_isAsTold_70 jX9_285 (by decide) ?_
              refine ev_ldc2 (z := 9) dX9_isAsTold_73 jX9_287 (by decide) ?_
              refine ev_calls (k_in (by omega) (by omega) (by omega) M) dX9_isAsTold_76 tX9_in.1 kX9_60 tX9_in.2.1 tX9_in.2.2 ⟨⟨Nat.le_of_ble_eq_true rfl, Nat.le_of_ble_eq_true rfl⟩, Nat.le_of_ble_eq_true rfl, Nat.le_of_ble_eq_true rfl⟩ rfl (Nat.le_of_ble_eq_true rfl) ?_
              rintro r K' M' P' ⟨rfl, rfl, ⟨v76, rfl, hw76, hv76⟩, hM'⟩
              rw [hM']
              clear hM' M'
              refine ev_if_eq (tgt := 86) dX9_isAsTold_79 (by decide) (by omega) (fun hb79 => ?_) (fun hb79 => ?_)
              · have g76 := (not_congr hv76).mp (by omega)
                refine ev_iconst dX9_isAsTold_86 ?_
                exact ev_ireturn dX9_isAsTold_87 (okR_z rfl (by first | exact Or.inl rfl | exact Or.inr rfl | assumption)) (rz (by first | exact ⟨yn_1 (by unfold putP; split <;> omega), rfl⟩ | exact ⟨yn_0 (by unfold putP; split <;> omega), rfl⟩))
              · have g76 := hv76.mp (by omega)
                refine ev_iconst dX9_isAsTold_82 ?_
                refine ev_goto (tgt := 87) dX9_isAsTold_83 (by decide) ?_
                exact ev_ireturn dX9_isAsTold_87 (okR_z rfl (by first | exact Or.inl rfl | exact Or.inr rfl | assumption)) (rz (by first | exact ⟨yn_1 (by unfold putP; split <;> omega), rfl⟩ | exact ⟨yn_0 (by unfold putP; split <;> omega), rfl⟩))
  · refine ev_iload_n dX9_isAsTold_5 rfl ?_
    refine ev_i2l dX9_isAsTold_6 (by omega) ?_
    refine ev_lconst (z := 0) dX9_isAsTold_7 ?_
    refine ev_ldc2 (z := 5) dX9_isAsTold_8 jX9_235 (by decide) ?_
    refine ev_calls (k_in (by omega) (by omega) (by omega) M) dX9_isAsTold_11 tX9_in.1 kX9_60 tX9_in.2.1 tX9_in.2.2 ⟨⟨Nat.le_of_ble_eq_true rfl, Nat.le_of_ble_eq_true rfl⟩, Nat.le_of_ble_eq_true rfl, Nat.le_of_ble_eq_true rfl⟩ rfl (Nat.le_of_ble_eq_true rfl) ?_
    rintro r K' M' P' ⟨rfl, rfl, ⟨v11, rfl, hw11, hv11⟩, hM'⟩
    rw [hM']
    clear hM' M'
    refine ev_if_eq (tgt := 21) dX9_isAsTold_14 (by decide) (by omega) (fun hb14 => ?_) (fun hb14 => ?_)
    · have g11 := (not_congr hv11).mp (by omega)
      refine ev_iconst dX9_isAsTold_21 ?_
      refine ev_istore dX9_isAsTold_22 (by decide) ?_
      refine ev_iload_n dX9_isAsTold_24 rfl ?_
      refine ev_i2l dX9_isAsTold_25 (by omega) ?_
      refine ev_lconst (z := 0) dX9_isAsTold_26 ?_
      refine ev_ldc2 (z := 3) dX9_isAsTold_27 jX9_283 (by decide) ?_
      refine ev_calls (k_in (by omega) (by omega) (by omega) M) dX9_isAsTold_30 tX9_in.1 kX9_60 tX9_in.2.1 tX9_in.2.2 ⟨⟨Nat.le_of_ble_eq_true rfl, Nat.le_of_ble_eq_true rfl⟩, Nat.le_of_ble_eq_true rfl, Nat.le_of_ble_eq_true rfl⟩ rfl (Nat.le_of_ble_eq_true rfl) ?_
      rintro r K' M' P' ⟨rfl, rfl, ⟨v30, rfl, hw30, hv30⟩, hM'⟩
      rw [hM']
      clear hM' M'
      refine ev_if_eq (tgt := 86) dX9_isAsTold_33 (by decide) (by omega) (fun hb33 => ?_) (fun hb33 => ?_)
      · have g30 := (not_congr hv30).mp (by omega)
        refine ev_iconst dX9_isAsTold_86 ?_
        exact ev_ireturn dX9_isAsTold_87 (okR_z rfl (by first | exact Or.inl rfl | exact Or.inr rfl | assumption)) (rz (by first | exact ⟨yn_1 (by unfold putP; split <;> omega), rfl⟩ | exact ⟨yn_0 (by unfold putP; split <;> omega), rfl⟩))
      · have g30 := hv30.mp (by omega)
        refine ev_iload_n dX9_isAsTold_36 rfl ?_
        refine ev_i2l dX9_isAsTold_37 (by omega) ?_
        refine ev_lconst (z := 0) dX9_isAsTold_38 ?_
        refine ev_iload_n dX9_isAsTold_39 rfl ?_
        refine ev_if_ne (tgt := 49) dX9_isAsTold_40 (by decide) (by omega) (fun hb40 => ?_) (fun hb40 => ?_)
        · refine ev_ldc2 (z := 2) dX9_isAsTold_49 jX9_247 (by decide) ?_
          refine ev_calls (k_in (by omega) (by omega) (by omega) M) dX9_isAsTold_52 tX9_in.1 kX9_60 tX9_in.2.1 tX9_in.2.2 ⟨⟨Nat.le_of_ble_eq_true rfl, Nat.le_of_ble_eq_true rfl⟩, Nat.le_of_ble_eq_true rfl, Nat.le_of_ble_eq_true rfl⟩ rfl (Nat.le_of_ble_eq_true rfl) ?_
          rintro r K' M' P' ⟨rfl, rfl, ⟨v52, rfl, hw52, hv52⟩, hM'⟩
          rw [hM']
          clear hM' M'
          refine ev_if_eq (tgt := 86) dX9_isAsTold_55 (by decide) (by omega) (fun hb55 => ?_) (fun hb55 => ?_)
          · have g52 := (not_congr hv52).mp (by omega)
            refine ev_iconst dX9_isAsTold_86 ?_
            exact ev_ireturn dX9_isAsTold_87 (okR_z rfl (by first | exact Or.inl rfl | exact Or.inr rfl | assumption)) (rz (by first | exact ⟨yn_1 (by unfold putP; split <;> omega), rfl⟩ | exact ⟨yn_0 (by unfold putP; split <;> omega), rfl⟩))
          · have g52 := hv52.mp (by omega)
            refine ev_iload dX9_isAsTold_58 rfl ?_
            refine ev_if_eq (tgt := 86) dX9_isAsTold_60 (by decide) (by omega) (fun hb60 => ?_) (fun hb60 => ?_)
            · refine ev_iconst dX9_isAsTold_86 ?_
              exact ev_ireturn dX9_isAsTold_87 (okR_z rfl (by first | exact Or.inl rfl | exact Or.inr rfl | assumption)) (rz (by first | exact ⟨yn_1 (by unfold putP; split <;> omega), rfl⟩ | exact ⟨yn_0 (by unfold putP; split <;> omega), rfl⟩))
            · refine ev_iload_n dX9_isAsTold_63 rfl ?_
              refine ev_iconst dX9_isAsTold_64 ?_
              refine ev_icmp_eq (tgt := 82) dX9_isAsTold_65 (by decide) (by omega) (by omega) (fun hb65 => ?_) (fun hb65 => ?_)
              · refine ev_iconst dX9_isAsTold_82 ?_
                refine ev_goto (tgt := 87) dX9_isAsTold_83 (by decide) ?_
                exact ev_ireturn dX9_isAsTold_87 (okR_z rfl (by first | exact Or.inl rfl | exact Or.inr rfl | assumption)) (rz (by first | exact ⟨yn_1 (by unfold putP; split <;> omega), rfl⟩ | exact ⟨yn_0 (by unfold putP; split <;> omega), rfl⟩))
              · refine ev_iload_n dX9_isAsTold_68 rfl ?_
                refine ev_i2l dX9_isAsTold_69 (by omega) ?_
                refine ev_ldc2 (z := -9) dX9_isAsTold_70 jX9_285 (by decide) ?_
                refine ev_ldc2 (z := 9) dX9_isAsTold_73 jX9_287 (by decide) ?_
                refine ev_calls (k_in (by omega) (by omega) (by omega) M) dX9_isAsTold_76 tX9_in.1 kX9_60 tX9_in.2.1 tX9_in.2.2 ⟨⟨Nat.le_of_ble_eq_true rfl, Nat.le_of_ble_eq_true rfl⟩, Nat.le_of_ble_eq_true rfl, Nat.le_of_ble_eq_true rfl⟩ rfl (Nat.le_of_ble_eq_true rfl) ?_
                rintro r K' M' P' ⟨rfl, rfl, ⟨v76, rfl, hw76, hv76⟩, hM'⟩
                rw [hM']
                clear hM' M'
                refine ev_if_eq (tgt := 86) dX9_isAsTold_79 (by decide) (by omega) (fun hb79 => ?_) (fun hb79 => ?_)
                · have g76 := (not_congr hv76).mp (by omega)
                  refine ev_iconst dX9_isAsTold_86 ?_
                  exact ev_ireturn dX9_isAsTold_87 (okR_z rfl (by first | exact Or.inl rfl | exact Or.inr rfl | assumption)) (rz (by first | exact ⟨yn_1 (by unfold putP; split <;> omega), rfl⟩ | exact ⟨yn_0 (by unfold putP; split <;> omega), rfl⟩))
                · have g76 := hv76.mp (by omega)
                  refine ev_iconst dX9_isAsTold_82 ?_
                  refine ev_goto (tgt := 87) dX9_isAsTold_83 (by decide) ?_
                  exact ev_ireturn dX9_isAsTold_87 (okR_z rfl (by first | exact Or.inl rfl | exact Or.inr rfl | assumption)) (rz (by first | exact ⟨yn_1 (by unfold putP; split <;> omega), rfl⟩ | exact ⟨yn_0 (by unfold putP; split <;> omega), rfl⟩))
        · refine ev_ldc2 (z := 5) dX9_isAsTold_43 jX9_235 (by decide) ?_
          refine ev_goto (tgt := 52) dX9_isAsTold_46 (by decide) ?_
          refine ev_calls (k_in (by omega) (by omega) (by omega) M) dX9_isAsTold_52 tX9_in.1 kX9_60 tX9_in.2.1 tX9_in.2.2 ⟨⟨Nat.le_of_ble_eq_true rfl, Nat.le_of_ble_eq_true rfl⟩, Nat.le_of_ble_eq_true rfl, Nat.le_of_ble_eq_true rfl⟩ rfl (Nat.le_of_ble_eq_true rfl) ?_
          rintro r K' M' P' ⟨rfl, rfl, ⟨v52, rfl, hw52, hv52⟩, hM'⟩
          rw [hM']
          clear hM' M'
          refine ev_if_eq (tgt := 86) dX9_isAsTold_55 (by decide) (by omega) (fun hb55 => ?_) (fun hb55 => ?_)
          · have g52 := (not_congr hv52).mp (by omega)
            refine ev_iconst dX9_isAsTold_86 ?_
            exact ev_ireturn dX9_isAsTold_87 (okR_z rfl (by first | exact Or.inl rfl | exact Or.inr rfl | assumption)) (rz (by first | exact ⟨yn_1 (by unfold putP; split <;> omega), rfl⟩ | exact ⟨yn_0 (by unfold putP; split <;> omega), rfl⟩))
          · have g52 := hv52.mp (by omega)
            refine ev_iload dX9_isAsTold_58 rfl ?_
            refine ev_if_eq (tgt := 86) dX9_isAsTold_60 (by decide) (by omega) (fun hb60 => ?_) (fun hb60 => ?_)
            · refine ev_iconst dX9_isAsTold_86 ?_
              exact ev_ireturn dX9_isAsTold_87 (okR_z rfl (by first | exact Or.inl rfl | exact Or.inr rfl | assumption)) (rz (by first | exact ⟨yn_1 (by unfold putP; split <;> omega), rfl⟩ | exact ⟨yn_0 (by unfold putP; split <;> omega), rfl⟩))
            · refine ev_iload_n dX9_isAsTold_63 rfl ?_
              refine ev_iconst dX9_isAsTold_64 ?_
              refine ev_icmp_eq (tgt := 82) dX9_isAsTold_65 (by decide) (by omega) (by omega) (fun hb65 => ?_) (fun hb65 => ?_)
              · refine ev_iconst dX9_isAsTold_82 ?_
                refine ev_goto (tgt := 87) dX9_isAsTold_83 (by decide) ?_
                exact ev_ireturn dX9_isAsTold_87 (okR_z rfl (by first | exact Or.inl rfl | exact Or.inr rfl | assumption)) (rz (by first | exact ⟨yn_1 (by unfold putP; split <;> omega), rfl⟩ | exact ⟨yn_0 (by unfold putP; split <;> omega), rfl⟩))
              · refine ev_iload_n dX9_isAsTold_68 rfl ?_
                refine ev_i2l dX9_isAsTold_69 (by omega) ?_
                refine ev_ldc2 (z := -9) dX9_isAsTold_70 jX9_285 (by decide) ?_
                refine ev_ldc2 (z := 9) dX9_isAsTold_73 jX9_287 (by decide) ?_
                refine ev_calls (k_in (by omega) (by omega) (by omega) M) dX9_isAsTold_76 tX9_in.1 kX9_60 tX9_in.2.1 tX9_in.2.2 ⟨⟨Nat.le_of_ble_eq_true rfl, Nat.le_of_ble_eq_true rfl⟩, Nat.le_of_ble_eq_true rfl, Nat.le_of_ble_eq_true rfl⟩ rfl (Nat.le_of_ble_eq_true rfl) ?_
                rintro r K' M' P' ⟨rfl, rfl, ⟨v76, rfl, hw76, hv76⟩, hM'⟩
                rw [hM']
                clear hM' M'
                refine ev_if_eq (tgt := 86) dX9_isAsTold_79 (by decide) (by omega) (fun hb79 => ?_) (fun hb79 => ?_)
                · have g76 := (not_congr hv76).mp (by omega)
                  refine ev_iconst dX9_isAsTold_86 ?_
                  exact ev_ireturn dX9_isAsTold_87 (okR_z rfl (by first | exact Or.inl rfl | exact Or.inr rfl | assumption)) (rz (by first | exact ⟨yn_1 (by unfold putP; split <;> omega), rfl⟩ | exact ⟨yn_0 (by unfold putP; split <;> omega), rfl⟩))
                · have g76 := hv76.mp (by omega)
                  refine ev_iconst dX9_isAsTold_82 ?_
                  refine ev_goto (tgt := 87) dX9_isAsTold_83 (by decide) ?_
                  exact ev_ireturn dX9_isAsTold_87 (okR_z rfl (by first | exact Or.inl rfl | exact Or.inr rfl | assumption)) (rz (by first | exact ⟨yn_1 (by unfold putP; split <;> omega), rfl⟩ | exact ⟨yn_0 (by unfold putP; split <;> omega), rfl⟩))
    · have g11 := hv11.mp (by omega)
      refine ev_iconst dX9_isAsTold_17 ?_
      refine ev_goto (tgt := 22) dX9_isAsTold_18 (by decide) ?_
      refine ev_istore dX9_isAsTold_22 (by decide) ?_
      refine ev_iload_n dX9_isAsTold_24 rfl ?_
      refine ev_i2l dX9_isAsTold_25 (by omega) ?_
      refine ev_lconst (z := 0) dX9_isAsTold_26 ?_
      refine ev_ldc2 (z := 3) dX9_isAsTold_27 jX9_283 (by decide) ?_
      refine ev_calls (k_in (by omega) (by omega) (by omega) M) dX9_isAsTold_30 tX9_in.1 kX9_60 tX9_in.2.1 tX9_in.2.2 ⟨⟨Nat.le_of_ble_eq_true rfl, Nat.le_of_ble_eq_true rfl⟩, Nat.le_of_ble_eq_true rfl, Nat.le_of_ble_eq_true rfl⟩ rfl (Nat.le_of_ble_eq_true rfl) ?_
      rintro r K' M' P' ⟨rfl, rfl, ⟨v30, rfl, hw30, hv30⟩, hM'⟩
      rw [hM']
      clear hM' M'
      refine ev_if_eq (tgt := 86) dX9_isAsTold_33 (by decide) (by omega) (fun hb33 => ?_) (fun hb33 => ?_)
      · have g30 := (not_congr hv30).mp (by omega)
        refine ev_iconst dX9_isAsTold_86 ?_
        exact ev_ireturn dX9_isAsTold_87 (okR_z rfl (by first | exact Or.inl rfl | exact Or.inr rfl | assumption)) (rz (by first | exact ⟨yn_1 (by unfold putP; split <;> omega), rfl⟩ | exact ⟨yn_0 (by unfold putP; split <;> omega), rfl⟩))
      · have g30 := hv30.mp (by omega)
        refine ev_iload_n dX9_isAsTold_36 rfl ?_
        refine ev_i2l dX9_isAsTold_37 (by omega) ?_
        refine ev_lconst (z := 0) dX9_isAsTold_38 ?_
        refine ev_iload_n dX9_isAsTold_39 rfl ?_
        refine ev_if_ne (tgt := 49) dX9_isAsTold_40 (by decide) (by omega) (fun hb40 => ?_) (fun hb40 => ?_)
        · refine ev_ldc2 (z := 2) dX9_isAsTold_49 jX9_247 (by decide) ?_
          refine ev_calls (k_in (by omega) (by omega) (by omega) M) dX9_isAsTold_52 tX9_in.1 kX9_60 tX9_in.2.1 tX9_in.2.2 ⟨⟨Nat.le_of_ble_eq_true rfl, Nat.le_of_ble_eq_true rfl⟩, Nat.le_of_ble_eq_true rfl, Nat.le_of_ble_eq_true rfl⟩ rfl (Nat.le_of_ble_eq_true rfl) ?_
          rintro r K' M' P' ⟨rfl, rfl, ⟨v52, rfl, hw52, hv52⟩, hM'⟩
          rw [hM']
          clear hM' M'
          refine ev_if_eq (tgt := 86) dX9_isAsTold_55 (by decide) (by omega) (fun hb55 => ?_) (fun hb55 => ?_)
          · have g52 := (not_congr hv52).mp (by omega)
            refine ev_iconst dX9_isAsTold_86 ?_
            exact ev_ireturn dX9_isAsTold_87 (okR_z rfl (by first | exact Or.inl rfl | exact Or.inr rfl | assumption)) (rz (by first | exact ⟨yn_1 (by unfold putP; split <;> omega), rfl⟩ | exact ⟨yn_0 (by unfold putP; split <;> omega), rfl⟩))
          · have g52 := hv52.mp (by omega)
            refine ev_iload dX9_isAsTold_58 rfl ?_
            refine ev_if_eq (tgt := 86) dX9_isAsTold_60 (by decide) (by omega) (fun hb60 => ?_) (fun hb60 => ?_)
            · refine ev_iconst dX9_isAsTold_86 ?_
              exact ev_ireturn dX9_isAsTold_87 (okR_z rfl (by first | exact Or.inl rfl | exact Or.inr rfl | assumption)) (rz (by first | exact ⟨yn_1 (by unfold putP; split <;> omega), rfl⟩ | exact ⟨yn_0 (by unfold putP; split <;> omega), rfl⟩))
            · refine ev_iload_n dX9_isAsTold_63 rfl ?_
              refine ev_iconst dX9_isAsTold_64 ?_
              refine ev_icmp_eq (tgt := 82) dX9_isAsTold_65 (by decide) (by omega) (by omega) (fun hb65 => ?_) (fun hb65 => ?_)
              · refine ev_iconst dX9_isAsTold_82 ?_
                refine ev_goto (tgt := 87) dX9_isAsTold_83 (by decide) ?_
                exact ev_ireturn dX9_isAsTold_87 (okR_z rfl (by first | exact Or.inl rfl | exact Or.inr rfl | assumption)) (rz (by first | exact ⟨yn_1 (by unfold putP; split <;> omega), rfl⟩ | exact ⟨yn_0 (by unfold putP; split <;> omega), rfl⟩))
              · refine ev_iload_n dX9_isAsTold_68 rfl ?_
                refine ev_i2l dX9_isAsTold_69 (by omega) ?_
                refine ev_ldc2 (z := -9) dX9_isAsTold_70 jX9_285 (by decide) ?_
                refine ev_ldc2 (z := 9) dX9_isAsTold_73 jX9_287 (by decide) ?_
                refine ev_calls (k_in (by omega) (by omega) (by omega) M) dX9_isAsTold_76 tX9_in.1 kX9_60 tX9_in.2.1 tX9_in.2.2 ⟨⟨Nat.le_of_ble_eq_true rfl, Nat.le_of_ble_eq_true rfl⟩, Nat.le_of_ble_eq_true rfl, Nat.le_of_ble_eq_true rfl⟩ rfl (Nat.le_of_ble_eq_true rfl) ?_
                rintro r K' M' P' ⟨rfl, rfl, ⟨v76, rfl, hw76, hv76⟩, hM'⟩
                rw [hM']
                clear hM' M'
                refine ev_if_eq (tgt := 86) dX9_isAsTold_79 (by decide) (by omega) (fun hb79 => ?_) (fun hb79 => ?_)
                · have g76 := (not_congr hv76).mp (by omega)
                  refine ev_iconst dX9_isAsTold_86 ?_
                  exact ev_ireturn dX9_isAsTold_87 (okR_z rfl (by first | exact Or.inl rfl | exact Or.inr rfl | assumption)) (rz (by first | exact ⟨yn_1 (by unfold putP; split <;> omega), rfl⟩ | exact ⟨yn_0 (by unfold putP; split <;> omega), rfl⟩))
                · have g76 := hv76.mp (by omega)
                  refine ev_iconst dX9_isAsTold_82 ?_
                  refine ev_goto (tgt := 87) dX9_isAsTold_83 (by decide) ?_
                  exact ev_ireturn dX9_isAsTold_87 (okR_z rfl (by first | exact Or.inl rfl | exact Or.inr rfl | assumption)) (rz (by first | exact ⟨yn_1 (by unfold putP; split <;> omega), rfl⟩ | exact ⟨yn_0 (by unfold putP; split <;> omega), rfl⟩))
        · refine ev_ldc2 (z := 5) dX9_isAsTold_43 jX9_235 (by decide) ?_
          refine ev_goto (tgt := 52) dX9_isAsTold_46 (by decide) ?_
          refine ev_calls (k_in (by omega) (by omega) (by omega) M) dX9_isAsTold_52 tX9_in.1 kX9_60 tX9_in.2.1 tX9_in.2.2 ⟨⟨Nat.le_of_ble_eq_true rfl, Nat.le_of_ble_eq_true rfl⟩, Nat.le_of_ble_eq_true rfl, Nat.le_of_ble_eq_true rfl⟩ rfl (Nat.le_of_ble_eq_true rfl) ?_
          rintro r K' M' P' ⟨rfl, rfl, ⟨v52, rfl, hw52, hv52⟩, hM'⟩
          rw [hM']
          clear hM' M'
          refine ev_if_eq (tgt := 86) dX9_isAsTold_55 (by decide) (by omega) (fun hb55 => ?_) (fun hb55 => ?_)
          · have g52 := (not_congr hv52).mp (by omega)
            refine ev_iconst dX9_isAsTold_86 ?_
            exact ev_ireturn dX9_isAsTold_87 (okR_z rfl (by first | exact Or.inl rfl | exact Or.inr rfl | assumption)) (rz (by first | exact ⟨yn_1 (by unfold putP; split <;> omega), rfl⟩ | exact ⟨yn_0 (by unfold putP; split <;> omega), rfl⟩))
          · have g52 := hv52.mp (by omega)
            refine ev_iload dX9_isAsTold_58 rfl ?_
            refine ev_if_eq (tgt := 86) dX9_isAsTold_60 (by decide) (by omega) (fun hb60 => ?_) (fun hb60 => ?_)
            · refine ev_iconst dX9_isAsTold_86 ?_
              exact ev_ireturn dX9_isAsTold_87 (okR_z rfl (by first | exact Or.inl rfl | exact Or.inr rfl | assumption)) (rz (by first | exact ⟨yn_1 (by unfold putP; split <;> omega), rfl⟩ | exact ⟨yn_0 (by unfold putP; split <;> omega), rfl⟩))
            · refine ev_iload_n dX9_isAsTold_63 rfl ?_
              refine ev_iconst dX9_isAsTold_64 ?_
              refine ev_icmp_eq (tgt := 82) dX9_isAsTold_65 (by decide) (by omega) (by omega) (fun hb65 => ?_) (fun hb65 => ?_)
              · refine ev_iconst dX9_isAsTold_82 ?_
                refine ev_goto (tgt := 87) dX9_isAsTold_83 (by decide) ?_
                exact ev_ireturn dX9_isAsTold_87 (okR_z rfl (by first | exact Or.inl rfl | exact Or.inr rfl | assumption)) (rz (by first | exact ⟨yn_1 (by unfold putP; split <;> omega), rfl⟩ | exact ⟨yn_0 (by unfold putP; split <;> omega), rfl⟩))
              · refine ev_iload_n dX9_isAsTold_68 rfl ?_
                refine ev_i2l dX9_isAsTold_69 (by omega) ?_
                refine ev_ldc2 (z := -9) dX9_isAsTold_70 jX9_285 (by decide) ?_
                refine ev_ldc2 (z := 9) dX9_isAsTold_73 jX9_287 (by decide) ?_
                refine ev_calls (k_in (by omega) (by omega) (by omega) M) dX9_isAsTold_76 tX9_in.1 kX9_60 tX9_in.2.1 tX9_in.2.2 ⟨⟨Nat.le_of_ble_eq_true rfl, Nat.le_of_ble_eq_true rfl⟩, Nat.le_of_ble_eq_true rfl, Nat.le_of_ble_eq_true rfl⟩ rfl (Nat.le_of_ble_eq_true rfl) ?_
                rintro r K' M' P' ⟨rfl, rfl, ⟨v76, rfl, hw76, hv76⟩, hM'⟩
                rw [hM']
                clear hM' M'
                refine ev_if_eq (tgt := 86) dX9_isAsTold_79 (by decide) (by omega) (fun hb79 => ?_) (fun hb79 => ?_)
                · have g76 := (not_congr hv76).mp (by omega)
                  refine ev_iconst dX9_isAsTold_86 ?_
                  exact ev_ireturn dX9_isAsTold_87 (okR_z rfl (by first | exact Or.inl rfl | exact Or.inr rfl | assumption)) (rz (by first | exact ⟨yn_1 (by unfold putP; split <;> omega), rfl⟩ | exact ⟨yn_0 (by unfold putP; split <;> omega), rfl⟩))
                · have g76 := hv76.mp (by omega)
                  refine ev_iconst dX9_isAsTold_82 ?_
                  refine ev_goto (tgt := 87) dX9_isAsTold_83 (by decide) ?_
                  exact ev_ireturn dX9_isAsTold_87 (okR_z rfl (by first | exact Or.inl rfl | exact Or.inr rfl | assumption)) (rz (by first | exact ⟨yn_1 (by unfold putP; split <;> omega), rfl⟩ | exact ⟨yn_0 (by unfold putP; split <;> omega), rfl⟩))
/-- rows moved up, step by step from the last -/
def gU (f : Int → Int) (p i n : Int) : Int → Int := fun j => if 4 * i + 4 ≤ j ∧ j < 4 * n + 4 then f (j - 4) + (if j % 4 = 1 then bmp (mK f) (mA f) p (j / 4 - 1) else 0) else f j
def hU (g : Int → Int) (i : Int) (c : Nat) : Int → Int := fun j => if 4 * i ≤ j ∧ j < 4 * i + c then g (j - 4) else g j
theorem gU_n (f : Int → Int) (p n : Int) : gU f p n n = f := by
  funext j
  unfold gU
  rw [if_neg (by omega)]
theorem hU_0 (g : Int → Int) (i : Int) : hU g i 0 = g := by
  funext j
  unfold hU
  rw [if_neg (by omega)]
theorem hU_s (g : Int → Int) (i : Int) (c : Nat) (hc : c < 4) : up1 (hU g i c) (4 * i + c) (hU g i c (4 * i - 4 + c)) = hU g i (c + 1) := by
  funext j
  by_cases hj : j = 4 * i + c
  · subst hj
    rw [up1_s]
    unfold hU
    rw [if_neg (by omega), if_pos (by omega)]
    congr 1
    omega
  · rw [up1_n hj]
    unfold hU
    split <;> split <;> first | rfl | omega
theorem gU_s {f : Int → Int} {p i n w : Int} (h2 : i ≤ n) (hw : w = bmp (mK f) (mA f) p (i - 1)) : up1 (hU (gU f p i n) i 4) (4 * i + 1) (f (4 * i - 3) + w) = gU f p (i - 1) n := by
  funext j
  by_cases hj : j = 4 * i + 1
  · subst hj
    rw [up1_s]
    unfold gU
    have e1 : (4 * i + 1) % 4 = 1 := by omega
    have e2 : (4 * i + 1) / 4 - 1 = i - 1 := by omega
    have e3 : 4 * i + 1 - 4 = 4 * i - 3 := by omega
    rw [if_pos (by omega), if_pos e1, e2, e3, hw]
  · rw [up1_n hj]
    unfold hU
    by_cases h3 : 4 * i ≤ j ∧ j < 4 * i + (4 : Nat)
    · rw [if_pos h3]
      unfold gU
      rw [if_neg (by omega), if_pos (by omega), if_neg (by omega), Int.add_zero]
    · rw [if_neg h3]
      unfold gU
      split <;> split <;> first | rfl | omega
theorem hU_v {f : Int → Int} {p i n : Int} : hU (gU f p i n) i 4 (4 * i) = f (4 * i - 4) ∧ hU (gU f p i n) i 4 (4 * i + 1) = f (4 * i - 3) := by
  constructor
  · unfold hU gU
    rw [if_pos (by omega), if_neg (by omega)]
  · unfold hU gU
    rw [if_pos (by omega), if_neg (by omega)]
    congr 1
    omega
def pu4 (g : Int → Int) (p kd a b z : Int) : Int → Int := up1 (up1 (up1 (up1 g (4 * p) kd) (4 * p + 1) a) (4 * p + 2) b) (4 * p + 3) z
def putN (kd z : Int) : Int := if kd = 2 then -1 else 100 + z
def mputM (M : Mm) (p n : Nat) (kd a b z : Int) : Mm := upM (rwc M 57 (pu4 (gU (M 57) p p n) p kd a (putB kd b) (putN kd z))) 54 8 ((n : Int) + 1)
theorem kput_tail {n p : Nat} {kd a b z : Int} (hp : p ≤ n) (hn : n < 6) (M : Mm) (hs : M 54 8 = n) (h1 : inR kd) {Φ : Pz} (hΦ : Φ (some (vI ((n + 1 : Nat) : Int))) (chM (mputM M p n kd a b z))) {u v : Option V} : Ev mX9_put 152 [some (vR 54), some (vI (p : Int)), some (vI kd), some (vI a), some (vI b), some (vI z), u, v] [] KK (rwc M 57 (gU (M 57) p p n)) PP 0 0 (Rz mX9_put Φ) := by
  have fin : ∀ B N : Int, B = putB kd b → N = putN kd z → Ev mX9_put 217 [some (vR 54), some (vI (p : Int)), some (vI kd), some (vI a), some (vI b), some (vI z), none, none] [] KK (upM (upM (upM (upM (rwc M 57 (gU (M 57) p p n)) 57 (4 * (p : Int)) kd) 57 (4 * (p : Int) + 1) a) 57 (4 * (p : Int) + 2) B) 57 (4 * (p : Int) + 3) N) PP 0 0 (Rz mX9_put Φ) := by
    intro B N hB hN
    subst hB
    subst hN
    have e : upM (upM (upM (upM (rwc M 57 (gU (M 57) p p n)) 57 (4 * (p : Int)) kd) 57 (4 * (p : Int) + 1) a) 57 (4 * (p : Int) + 2) (putB kd b)) 57 (4 * (p : Int) + 3) (putN kd z) = rwc M 57 (pu4 (gU (M 57) p p n) p kd a (putB kd b) (putN kd z)) := by
      simp only [upM_rw, rwc_rwc, rwc_at]
      rfl
    rw [e]
    have e8 : rwc M 57 (pu4 (gU (M 57) p p n) p kd a (putB kd b) (putN kd z)) 54 8 = n := by rw [rwc_ne (by decide)]; exact hs
    have c8 : chM (mputM M p n kd a b z) 54 8 = (n : Int) + 1 := by
      unfold chM mputM
      rw [rwc_ne (by decide), upM_n (Or.inr (by decide)), upM_s]
    first | refine ev_aload_n dX9_put_217 rfl ?_ | refine ev_aloadX_n dX9_put_217 rfl ?_
    refine ev_dup dX9_put_218 ?_
    refine ev_gI 8 dX9_put_219 fX9_126 rfl (by first | rfl | assumption) rfl ?_
    rw [e8]
    refine ev_iconst dX9_put_222 ?_
    refine ev_iadd dX9_put_223 ?_
    refine ev_pI 8 dX9_put_224 sX9_126 rfl (by first | rfl | assumption) rfl ?_
    first | refine ev_aload_n dX9_put_227 rfl ?_ | refine ev_aloadX_n dX9_put_227 rfl ?_
    refine ev_callv (ci := 9) (k_changed (mputM M p n kd a b z)) dX9_put_228 tX9_changed.1 kX9_139 tX9_changed.2.1 tX9_changed.2.2.1 rfl (by first | rfl | assumption) tX9_changed.2.2.2 ⟨⟨Nat.le_of_ble_eq_true rfl, Nat.le_of_ble_eq_true rfl⟩, Nat.le_of_ble_eq_true rfl, Nat.le_of_ble_eq_true rfl⟩ rfl (Nat.le_of_ble_eq_true rfl) ?_
    rintro r K' M' P' ⟨rfl, rfl, rfl, hM'⟩
    rw [hM']
    clear hM' M'
    first | refine ev_aload_n dX9_put_231 rfl ?_ | refine ev_aloadX_n dX9_put_231 rfl ?_
    refine ev_gI 8 dX9_put_232 fX9_126 rfl (by first | rfl | assumption) rfl ?_
    rw [c8]
    exact ev_ireturn dX9_put_235 ⟨_, rfl, rfl⟩ (rz hΦ)
  first | refine ev_aload_n dX9_put_152 rfl ?_ | refine ev_aloadX_n dX9_put_152 rfl ?_
  refine ev_getR dX9_put_153 fX9_16 rfl (by first | rfl | assumption) (by first | rfl | assumption) ?_
  refine ev_iconst dX9_put_156 ?_
  refine ev_iload_n dX9_put_157 rfl ?_
  refine ev_imul dX9_put_158 ?_
  refine ev_iload_n dX9_put_159 rfl ?_
  refine ev_iastore dX9_put_160 (by first | rfl | assumption) (by omega) (by omega) (by decide) ?_
  first | refine ev_aload_n dX9_put_161 rfl ?_ | refine ev_aloadX_n dX9_put_161 rfl ?_
  refine ev_getR dX9_put_162 fX9_16 rfl (by first | rfl | assumption) (by first | rfl | assumption) ?_
  refine ev_iconst dX9_put_165 ?_
  refine ev_iload_n dX9_put_166 rfl ?_
  refine ev_imul dX9_put_167 ?_
  refine ev_iconst dX9_put_168 ?_
  refine ev_iadd dX9_put_169 ?_
  refine ev_iload_n dX9_put_170 rfl ?_
  refine ev_iastore dX9_put_171 (by first | rfl | assumption) (by omega) (by omega) (by decide) ?_
  first | refine ev_aload_n dX9_put_172 rfl ?_ | refine ev_aloadX_n dX9_put_172 rfl ?_
  refine ev_getR dX9_put_173 fX9_16 rfl (by first | rfl | assumption) (by first | rfl | assumption) ?_
  refine ev_iconst dX9_put_176 ?_
  refine ev_iload_n dX9_put_177 rfl ?_
  refine ev_imul dX9_put_178 ?_
  refine ev_iconst dX9_put_179 ?_
  refine ev_iadd dX9_put_180 ?_
  refine ev_iload_n dX9_put_181 rfl ?_
  refine ev_iconst dX9_put_182 ?_
  refine ev_icmp_le (tgt := 190) dX9_put_183 (by decide) (by omega) (by omega) (fun hb183 => ?_) (fun hb183 => ?_)
  · refine ev_iload dX9_put_190 rfl ?_
    refine ev_iastore dX9_put_192 (by first | rfl | assumption) (by omega) (by omega) (by decide) ?_
    first | refine ev_aload_n dX9_put_193 rfl ?_ | refine ev_aloadX_n dX9_put_193 rfl ?_
    refine ev_getR dX9_put_194 fX9_16 rfl (by first | rfl | assumption) (by first | rfl | assumption) ?_
    refine ev_iconst dX9_put_197 ?_
    refine ev_iload_n dX9_put_198 rfl ?_
    refine ev_imul dX9_put_199 ?_
    refine ev_iconst dX9_put_200 ?_
    refine ev_iadd dX9_put_201 ?_
    refine ev_iload_n dX9_put_202 rfl ?_
    refine ev_iconst dX9_put_203 ?_
    refine ev_icmp_ne (tgt := 211) dX9_put_204 (by decide) (by omega) (by omega) (fun hb204 => ?_) (fun hb204 => ?_)
    · refine ev_bipush dX9_put_211 ?_
      refine ev_iload dX9_put_213 rfl ?_
      refine ev_iadd dX9_put_215 ?_
      refine ev_iastore dX9_put_216 (by first | rfl | assumption) (by omega) (by omega) (by decide) ?_
      refine ev_to (fin _ _ ?_ ?_) (by repeat (first | exact trivial | refine ⟨rfl, ?_⟩)) rfl rfl rfl rfl
      · unfold putB; first | rw [if_pos (by omega)] | rw [if_neg (by omega)]
      · unfold putN; first | rw [if_pos (by omega)] | rw [if_neg (by omega)]
    · refine ev_iconst dX9_put_207 ?_
      refine ev_goto (tgt := 216) dX9_put_208 (by decide) ?_
      refine ev_iastore dX9_put_216 (by first | rfl | assumption) (by omega) (by omega) (by decide) ?_
      refine ev_to (fin _ _ ?_ ?_) (by repeat (first | exact trivial | refine ⟨rfl, ?_⟩)) rfl rfl rfl rfl
      · unfold putB; first | rw [if_pos (by omega)] | rw [if_neg (by omega)]
      · unfold putN; first | rw [if_pos (by omega)] | rw [if_neg (by omega)]
  · refine ev_iconst dX9_put_186 ?_
    refine ev_goto (tgt := 192) dX9_put_187 (by decide) ?_
    refine ev_iastore dX9_put_192 (by first | rfl | assumption) (by omega) (by omega) (by decide) ?_
    first | refine ev_aload_n dX9_put_193 rfl ?_ | refine ev_aloadX_n dX9_put_193 rfl ?_
    refine ev_getR dX9_put_194 fX9_16 rfl (by first | rfl | assumption) (by first | rfl | assumption) ?_
    refine ev_iconst dX9_put_197 ?_
    refine ev_iload_n dX9_put_198 rfl ?_
    refine ev_imul dX9_put_199 ?_
    refine ev_iconst dX9_put_200 ?_
    refine ev_iadd dX9_put_201 ?_
    refine ev_iload_n dX9_put_202 rfl ?_
    refine ev_iconst dX9_put_203 ?_
    refine ev_icmp_ne (tgt := 211) dX9_put_204 (by decide) (by omega) (by omega) (fun hb204 => ?_) (fun hb204 => ?_)
    · refine ev_bipush dX9_put_211 ?_
      refine ev_iload dX9_put_213 rfl ?_
      refine ev_iadd dX9_put_215 ?_
      refine ev_iastore dX9_put_216 (by first | rfl | assumption) (by omega) (by omega) (by decide) ?_
      refine ev_to (fin _ _ ?_ ?_) (by repeat (first | exact trivial | refine ⟨rfl, ?_⟩)) rfl rfl rfl rfl
      · unfold putB; first | rw [if_pos (by omega)] | rw [if_neg (by omega)]
      · unfold putN; first | rw [if_pos (by omega)] | rw [if_neg (by omega)]
    · refine ev_iconst dX9_put_207 ?_
      refine ev_goto (tgt := 216) dX9_put_208 (by decide) ?_
      refine ev_iastore dX9_put_216 (by first | rfl | assumption) (by omega) (by omega) (by decide) ?_
      refine ev_to (fin _ _ ?_ ?_) (by repeat (first | exact trivial | refine ⟨rfl, ?_⟩)) rfl rfl rfl rfl
      · unfold putB; first | rw [if_pos (by omega)] | rw [if_neg (by omega)]
      · unfold putN; first | rw [if_pos (by omega)] | rw [if_neg (by omega)]
theorem kput_in {M : Mm} {G : Int → Int} {p i kd a b z : Int} (h1 : 1 ≤ i) (h2 : i < 6) {Φ : Ps} (hE : Ev mX9_put 107 [some (vR 54), some (vI p), some (vI kd), some (vI a), some (vI b), some (vI z), some (vI i), none] [] KK (rwc M 57 (hU G i 4)) PP 0 0 Φ) : Ev mX9_put 69 [some (vR 54), some (vI p), some (vI kd), some (vI a), some (vI b), some (vI z), some (vI i), some (vI 0)] [] KK (rwc M 57 G) PP 0 0 Φ := by
  refine ev_to (L' := [some (vR 54), some (vI p), some (vI kd), some (vI a), some (vI b), some (vI z), some (vI i), some (vI ((0 : Nat) : Int))]) (S' := []) (M' := rwc M 57 (hU G i (0 : Nat))) (k' := 0) (n' := 0) ?_ (by repeat (first | exact trivial | refine ⟨rfl, ?_⟩)) (by rw [hU_0]) rfl rfl rfl
  refine up_loop (P := fun c => Ev mX9_put 69 [some (vR 54), some (vI p), some (vI kd), some (vI a), some (vI b), some (vI z), some (vI i), some (vI (c : Int))] [] KK (rwc M 57 (hU G i c)) PP 0 0 _) 4 ?_ ?_
  · refine ev_iload dX9_put_69 rfl ?_
    refine ev_iconst dX9_put_71 ?_
    refine ev_icmp_ge (tgt := 107) dX9_put_72 (by decide) (by omega) (by omega) (fun hb72 => ?_) (fun hb72 => ?_)
    · exact ev_to hE (by repeat (first | exact trivial | refine ⟨rfl, ?_⟩)) rfl rfl rfl rfl
    · omega
  · intro c hc hP
    refine ev_iload dX9_put_69 rfl ?_
    refine ev_iconst dX9_put_71 ?_
    refine ev_icmp_ge (tgt := 107) dX9_put_72 (by decide) (by omega) (by omega) (fun hb72 => ?_) (fun hb72 => ?_)
    · omega
    · first | refine ev_aload_n dX9_put_75 rfl ?_ | refine ev_aloadX_n dX9_put_75 rfl ?_
      refine ev_getR dX9_put_76 fX9_16 rfl (by first | rfl | assumption) (by first | rfl | assumption) ?_
      refine ev_iconst dX9_put_79 ?_
      refine ev_iload dX9_put_80 rfl ?_
      refine ev_imul dX9_put_82 ?_
      refine ev_iload dX9_put_83 rfl ?_
      refine ev_iadd dX9_put_85 ?_
      first | refine ev_aload_n dX9_put_86 rfl ?_ | refine ev_aloadX_n dX9_put_86 rfl ?_
      refine ev_getR dX9_put_87 fX9_16 rfl (by first | rfl | assumption) (by first | rfl | assumption) ?_
      refine ev_iconst dX9_put_90 ?_
      refine ev_iload dX9_put_91 rfl ?_
      refine ev_imul dX9_put_93 ?_
      refine ev_iconst dX9_put_94 ?_
      refine ev_isub dX9_put_95 ?_
      refine ev_iload dX9_put_96 rfl ?_
      refine ev_iadd dX9_put_98 ?_
      refine ev_iaload dX9_put_99 (by first | rfl | assumption) (by omega) (by omega) (by decide) ?_
      rw [rwc_at]
      refine ev_iastore dX9_put_100 (by first | rfl | assumption) (by omega) (by omega) (by decide) ?_
      refine ev_iinc dX9_put_101 rfl (by decide) ?_
      refine ev_goto (tgt := 69) dX9_put_104 (by decide) ?_
      refine ev_to hP (by repeat (first | exact trivial | refine ⟨rfl, ?_⟩)) ?_ rfl rfl rfl
      rw [upM_rw, rwc_rwc, rwc_at, hU_s G i c hc]
theorem kput_loop {n p : Nat} {kd a b z : Int} (hp : p ≤ n) (hn : n < 6) (M : Mm) (hs : M 54 8 = n) (h1 : inR kd) (hb : ∀ j, 0 ≤ j → j < 4 * (n : Int) → -1000 ≤ M 57 j ∧ M 57 j ≤ 1000) {Φ : Pz} (hΦ : Φ (some (vI ((n + 1 : Nat) : Int))) (chM (mputM M p n kd a b z))) : ∀ d : Nat, p + d ≤ n → Ev mX9_put 60 [some (vR 54), some (vI (p : Int)), some (vI kd), some (vI a), some (vI b), some (vI z), some (vI ((p + d : Nat) : Int)), none] [] KK (rwc M 57 (gU (M 57) p ((p + d : Nat) : Int) n)) PP 0 0 (Rz mX9_put Φ) := by
  intro d
  induction d with
  | zero =>
    intro _
    have ht := kput_tail (a := a) (b := b) (z := z) (u := some (vI (p : Int))) (v := none) hp hn M hs h1 hΦ
    refine ev_iload dX9_put_60 rfl ?_
    refine ev_iload_n dX9_put_62 rfl ?_
    refine ev_icmp_le (tgt := 152) dX9_put_63 (by decide) (by omega) (by omega) (fun hb63 => ?_) (fun hb63 => ?_)
    · exact ev_to ht (by repeat (first | exact trivial | refine ⟨rfl, ?_⟩)) rfl rfl rfl rfl
    · omega
  | succ d ih =>
    intro hd
    have ih' := ih (by omega)
    have ei : ((p + d : Nat) : Int) = ((p + (d + 1) : Nat) : Int) + (-1) := by omega
    rw [ei] at ih'
    have hi1 : (p : Int) < ((p + (d + 1) : Nat) : Int) := by omega
    have hi2 : ((p + (d + 1) : Nat) : Int) ≤ n := by omega
    clear ei ih
    generalize ((p + (d + 1) : Nat) : Int) = i at *
    obtain ⟨v0, v1⟩ := hU_v (f := M 57) (p := p) (i := i) (n := n)
    have b0 := hb (4 * i - 4) (by omega) (by omega)
    have b1 := hb (4 * i - 3) (by omega) (by omega)
    have em : i - 1 = i + -1 := by omega
    have mk : mK (M 57) (i - 1) = M 57 (4 * i - 4) := by unfold mK; congr 1; omega
    have ma : mA (M 57) (i - 1) = M 57 (4 * i - 3) := by unfold mA; congr 1; omega
    have fin : Ev mX9_put 107 [some (vR 54), some (vI (p : Int)), some (vI kd), some (vI a), some (vI b), some (vI z), some (vI i), none] [] KK (rwc M 57 (hU (gU (M 57) p i n) i 4)) PP 0 0 (Rz mX9_put Φ) := by
      first | refine ev_aload_n dX9_put_107 rfl ?_ | refine ev_aloadX_n dX9_put_107 rfl ?_
      refine ev_getR dX9_put_108 fX9_16 rfl (by first | rfl | assumption) (by first | rfl | assumption) ?_
      refine ev_iconst dX9_put_111 ?_
      refine ev_iload dX9_put_112 rfl ?_
      refine ev_imul dX9_put_114 ?_
      refine ev_iconst dX9_put_115 ?_
      refine ev_iadd dX9_put_116 ?_
      refine ev_dup2 dX9_put_117 ?_
      refine ev_iaload dX9_put_118 (by first | rfl | assumption) (by omega) (by omega) (by decide) ?_
      rw [rwc_at, v1]
      first | refine ev_aload_n dX9_put_119 rfl ?_ | refine ev_aloadX_n dX9_put_119 rfl ?_
      refine ev_iload dX9_put_120 rfl ?_
      refine ev_callv (ci := 9) (k_kind (by omega) (by omega) _) dX9_put_122 tX9_kind.1 kX9_146 tX9_kind.2.1 tX9_kind.2.2.1 rfl (by first | rfl | assumption) tX9_kind.2.2.2 ⟨⟨Nat.le_of_ble_eq_true rfl, Nat.le_of_ble_eq_true rfl⟩, Nat.le_of_ble_eq_true rfl, Nat.le_of_ble_eq_true rfl⟩ rfl (Nat.le_of_ble_eq_true rfl) ?_
      rintro r K' M' P' ⟨rfl, rfl, rfl, hM'⟩
      rw [hM']
      clear hM' M'
      rw [rwc_at, v0]
      refine ev_iconst dX9_put_125 ?_
      refine ev_icmp_ne (tgt := 143) dX9_put_126 (by decide) (by omega) (by omega) (fun hb126 => ?_) (fun hb126 => ?_)
      · refine ev_iconst dX9_put_143 ?_
        refine ev_iadd dX9_put_144 ?_
        refine ev_iastore dX9_put_145 (by first | rfl | assumption) (by omega) (by omega) (by decide) ?_
        refine ev_iinc dX9_put_146 rfl (by decide) ?_
        refine ev_goto (tgt := 60) dX9_put_149 (by decide) ?_
        refine ev_to ih' (by repeat (first | exact trivial | refine ⟨rfl, ?_⟩)) ?_ rfl rfl rfl
        rw [upM_rw, rwc_rwc, rwc_at, ← em]
        exact congrArg (rwc M 57) (gU_s hi2 (by unfold bmp; rw [mk, ma]; first | rw [if_pos (by omega)] | rw [if_neg (by omega)]))
      · first | refine ev_aload_n dX9_put_129 rfl ?_ | refine ev_aloadX_n dX9_put_129 rfl ?_
        refine ev_iload dX9_put_130 rfl ?_
        refine ev_callv (ci := 9) (k_one (by omega) (by omega) _) dX9_put_132 tX9_one.1 kX9_149 tX9_one.2.1 tX9_one.2.2.1 rfl (by first | rfl | assumption) tX9_one.2.2.2 ⟨⟨Nat.le_of_ble_eq_true rfl, Nat.le_of_ble_eq_true rfl⟩, Nat.le_of_ble_eq_true rfl, Nat.le_of_ble_eq_true rfl⟩ rfl (Nat.le_of_ble_eq_true rfl) ?_
        rintro r K' M' P' ⟨rfl, rfl, rfl, hM'⟩
        rw [hM']
        clear hM' M'
        rw [rwc_at, v1]
        refine ev_iload_n dX9_put_135 rfl ?_
        refine ev_icmp_le (tgt := 143) dX9_put_136 (by decide) (by omega) (by omega) (fun hb136 => ?_) (fun hb136 => ?_)
        · refine ev_iconst dX9_put_143 ?_
          refine ev_iadd dX9_put_144 ?_
          refine ev_iastore dX9_put_145 (by first | rfl | assumption) (by omega) (by omega) (by decide) ?_
          refine ev_iinc dX9_put_146 rfl (by decide) ?_
          refine ev_goto (tgt := 60) dX9_put_149 (by decide) ?_
          refine ev_to ih' (by repeat (first | exact trivial | refine ⟨rfl, ?_⟩)) ?_ rfl rfl rfl
          rw [upM_rw, rwc_rwc, rwc_at, ← em]
          exact congrArg (rwc M 57) (gU_s hi2 (by unfold bmp; rw [mk, ma]; first | rw [if_pos (by omega)] | rw [if_neg (by omega)]))
        · refine ev_iconst dX9_put_139 ?_
          refine ev_goto (tgt := 144) dX9_put_140 (by decide) ?_
          refine ev_iadd dX9_put_144 ?_
          refine ev_iastore dX9_put_145 (by first | rfl | assumption) (by omega) (by omega) (by decide) ?_
          refine ev_iinc dX9_put_146 rfl (by decide) ?_
          refine ev_goto (tgt := 60) dX9_put_149 (by decide) ?_
          refine ev_to ih' (by repeat (first | exact trivial | refine ⟨rfl, ?_⟩)) ?_ rfl rfl rfl
          rw [upM_rw, rwc_rwc, rwc_at, ← em]
          exact congrArg (rwc M 57) (gU_s hi2 (by unfold bmp; rw [mk, ma]; first | rw [if_pos (by omega)] | rw [if_neg (by omega)]))
    have inn := kput_in (M := M) (G := gU (M 57) p i n) (p := p) (kd := kd) (a := a) (b := b) (z := z) (i := i) (by omega) (by omega) fin
    refine ev_iload dX9_put_60 rfl ?_
    refine ev_iload_n dX9_put_62 rfl ?_
    refine ev_icmp_le (tgt := 152) dX9_put_63 (by decide) (by omega) (by omega) (fun hb63 => ?_) (fun hb63 => ?_)
    · omega
    · refine ev_iconst dX9_put_66 ?_
      refine ev_istore dX9_put_67 (by decide) ?_
      exact ev_to inn (by repeat (first | exact trivial | refine ⟨rfl, ?_⟩)) rfl rfl rfl rfl
theorem k_put {n : Nat} {x kd a b z : Int} (hx : inR x) (h1 : inR kd) (h2 : inR a) (h3 : inR b) (h4 : inR z) (M : Mm) (hK : KI M n) : Cm mX9_put [vR 54, vI x, vI kd, vI a, vI b, vI z] M (fun r M' => ((x < 0 ∨ n < x) ∧ r = some (vI (-101)) ∧ M' = M) ∨ ((0 ≤ x ∧ x ≤ n) ∧ ¬ putP kd a b z ∧ r = some (vI (-102)) ∧ M' = M) ∨ ((0 ≤ x ∧ x ≤ n) ∧ putP kd a b z ∧ n = 0 ∧ r = some (vI (-103)) ∧ M' = M) ∨ ((0 ≤ x ∧ x ≤ n) ∧ putP kd a b z ∧ n = 6 ∧ r = some (vI (-104)) ∧ M' = M) ∨ ∃ p : Nat, x = p ∧ p ≤ n ∧ 0 < n ∧ n < 6 ∧ putP kd a b z ∧ r = some (vI ((n + 1 : Nat) : Int)) ∧ M' = chM (mputM M p n kd a b z)) := by
  have hs := hK.sz
  have h6 := hK.n6
  refine cm_of (by decide +kernel) (fun _ => trivial) (Nat.le_of_ble_eq_true rfl) ?_
  refine ev_iload_n dX9_put_0 rfl ?_
  refine ev_i2l dX9_put_1 (by omega) ?_
  refine ev_lconst (z := 0) dX9_put_2 ?_
  first | refine ev_aload_n dX9_put_3 rfl ?_ | refine ev_aloadX_n dX9_put_3 rfl ?_
  refine ev_gI 8 dX9_put_4 fX9_126 rfl (by first | rfl | assumption) rfl ?_
  rw [hs]
  refine ev_i2l dX9_put_7 (by omega) ?_
  refine ev_calls (k_in (by omega) (by omega) (by omega) M) dX9_put_8 tX9_in.1 kX9_60 tX9_in.2.1 tX9_in.2.2 ⟨⟨Nat.le_of_ble_eq_true rfl, Nat.le_of_ble_eq_true rfl⟩, Nat.le_of_ble_eq_true rfl, Nat.le_of_ble_eq_true rfl⟩ rfl (Nat.le_of_ble_eq_true rfl) ?_
  rintro r K' M' P' ⟨rfl, rfl, ⟨v8, rfl, hw8, hv8⟩, hM'⟩
  rw [hM']
  clear hM' M'
  refine ev_if_ne (tgt := 17) dX9_put_11 (by decide) (by omega) (fun hb11 => ?_) (fun hb11 => ?_)
  · have g8 := hv8.mp (by omega)
    refine ev_iload_n dX9_put_17 rfl ?_
    refine ev_iload_n dX9_put_18 rfl ?_
    refine ev_iload dX9_put_19 rfl ?_
    refine ev_iload dX9_put_21 rfl ?_
    refine ev_calls (k_isAsTold h1 h2 h3 h4 M) dX9_put_23 tX9_isAsTold.1 kX9_289 tX9_isAsTold.2.1 tX9_isAsTold.2.2 ⟨⟨Nat.le_of_ble_eq_true rfl, Nat.le_of_ble_eq_true rfl⟩, Nat.le_of_ble_eq_true rfl, Nat.le_of_ble_eq_true rfl⟩ rfl (Nat.le_of_ble_eq_true rfl) ?_
    rintro r K' M' P' ⟨rfl, rfl, ⟨v23, rfl, hw23, hv23⟩, hM'⟩
    rw [hM']
    clear hM' M'
    refine ev_if_ne (tgt := 32) dX9_put_26 (by decide) (by omega) (fun hb26 => ?_) (fun hb26 => ?_)
    · have g23 := hv23.mp (by omega)
      first | refine ev_aload_n dX9_put_32 rfl ?_ | refine ev_aloadX_n dX9_put_32 rfl ?_
      refine ev_callv (ci := 9) (k_lacks M (by omega)) dX9_put_33 tX9_lacks.1 kX9_222 tX9_lacks.2.1 tX9_lacks.2.2.1 rfl (by first | rfl | assumption) tX9_lacks.2.2.2 ⟨⟨Nat.le_of_ble_eq_true rfl, Nat.le_of_ble_eq_true rfl⟩, Nat.le_of_ble_eq_true rfl, Nat.le_of_ble_eq_true rfl⟩ rfl (Nat.le_of_ble_eq_true rfl) ?_
      rintro r K' M' P' ⟨rfl, rfl, ⟨v33, rfl, hw33, hv33⟩, hM'⟩
      rw [hM']
      clear hM' M'
      refine ev_if_eq (tgt := 42) dX9_put_36 (by decide) (by omega) (fun hb36 => ?_) (fun hb36 => ?_)
      · have g33 := (not_congr hv33).mp (by omega)
        first | refine ev_aload_n dX9_put_42 rfl ?_ | refine ev_aloadX_n dX9_put_42 rfl ?_
        refine ev_gI 8 dX9_put_43 fX9_126 rfl (by first | rfl | assumption) rfl ?_
        rw [hs]
        refine ev_bipush dX9_put_46 ?_
        refine ev_icmp_ne (tgt := 54) dX9_put_48 (by decide) (by omega) (by omega) (fun hb48 => ?_) (fun hb48 => ?_)
        · first | refine ev_aload_n dX9_put_54 rfl ?_ | refine ev_aloadX_n dX9_put_54 rfl ?_
          refine ev_gI 8 dX9_put_55 fX9_126 rfl (by first | rfl | assumption) rfl ?_
          rw [hs]
          refine ev_istore dX9_put_58 (by decide) ?_
          obtain ⟨p, rfl⟩ := Int.eq_ofNat_of_zero_le (show 0 ≤ x by omega)
          obtain ⟨d, hd⟩ : ∃ d : Nat, n = p + d := ⟨n - p, by omega⟩
          have hl := kput_loop (n := n) (p := p) (kd := kd) (a := a) (b := b) (z := z) (by omega) (by omega) M hs h1 hK.bd (Φ := fun r M' => ((((p : Int)) < 0 ∨ n < ((p : Int))) ∧ r = some (vI (-101)) ∧ M' = M) ∨ ((0 ≤ ((p : Int)) ∧ ((p : Int)) ≤ n) ∧ ¬ putP kd a b z ∧ r = some (vI (-102)) ∧ M' = M) ∨ ((0 ≤ ((p : Int)) ∧ ((p : Int)) ≤ n) ∧ putP kd a b z ∧ n = 0 ∧ r = some (vI (-103)) ∧ M' = M) ∨ ((0 ≤ ((p : Int)) ∧ ((p : Int)) ≤ n) ∧ putP kd a b z ∧ n = 6 ∧ r = some (vI (-104)) ∧ M' = M) ∨ ∃ p' : Nat, ((p : Int)) = p' ∧ p' ≤ n ∧ 0 < n ∧ n < 6 ∧ putP kd a b z ∧ r = some (vI ((n + 1 : Nat) : Int)) ∧ M' = chM (mputM M p' n kd a b z)) (Or.inr (Or.inr (Or.inr (Or.inr ⟨p, rfl, by omega, by omega, by omega, g23, rfl, rfl⟩)))) d (by omega)
          rw [← hd, gU_n, rwc_self] at hl
          refine ev_to hl (by repeat (first | exact trivial | refine ⟨rfl, ?_⟩)) rfl rfl rfl rfl
        · refine ev_bipush dX9_put_51 ?_
          exact ev_ireturn dX9_put_53 ⟨_, rfl, rfl⟩ (rz (Or.inr (Or.inr (Or.inr (Or.inl ⟨by omega, g23, by omega, rfl, rfl⟩)))))
      · have g33 := hv33.mp (by omega)
        refine ev_bipush dX9_put_39 ?_
        exact ev_ireturn dX9_put_41 ⟨_, rfl, rfl⟩ (rz (Or.inr (Or.inr (Or.inl ⟨by omega, g23, by omega, rfl, rfl⟩))))
    · have g23 := (not_congr hv23).mp (by omega)
      refine ev_bipush dX9_put_29 ?_
      exact ev_ireturn dX9_put_31 ⟨_, rfl, rfl⟩ (rz (Or.inr (Or.inl ⟨by omega, g23, rfl, rfl⟩)))
  · have g8 := (not_congr hv8).mp (by omega)
    refine ev_bipush dX9_put_14 ?_
    exact ev_ireturn dX9_put_16 ⟨_, rfl, rfl⟩ (rz (Or.inl ⟨by omega, rfl, rfl⟩))
