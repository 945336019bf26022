/-! ===== the reference: fault, program ===== -/
def fo0 (X : Mm) : Mm := upM (upM (upM (upM X 54 2 0) 54 3 0) 54 4 (-1)) 54 5 0
theorem rx_0 (M X : Mm) : RX (rd0 M) (fo0 X) := by
  have m1 : rd0 M 3 1 = -1 := upM_s _ _ _ _
  have m4 : rd0 M 4 4 = 0 := by unfold rd0; rw [upM_o (by decide), upM_s]
  have x2 : fo0 X 54 2 = 0 := by simp [fo0, upM]
  have x3 : fo0 X 54 3 = 0 := by simp [fo0, upM]
  have x5 : fo0 X 54 5 = 0 := by simp [fo0, upM]
  apply RX.mk
  case mn => rw [x2, m4]
  case fr => rw [x5]; unfold bllM; rw [m4]; rfl
  case st => intro j hj; rw [m4] at hj; omega
  case h0 => intro _; exact x3
  case h1 => intro y; exact absurd m1 y
  case pt => intro y; exact absurd m1 y
  case sg => rw [m1]; intro y; omega
theorem fri_0 (X : Mm) : FrI X (fo0 X) := (((FrI.rf.u (by decide)).u (by decide)).u (by decide)).u (by decide)
theorem k_faultOf {M Mk X : Mm} {m k : Nat} (hm : m ≤ 36) (h0 : RI (rd0 M)) (hl : ∀ j : Nat, j < m → 1 ≤ M 2 j ∧ M 2 j ≤ 126) (hE : rdE M m k Mk) (x1 : X 54 1 = m) (xl : ∀ j : Nat, j < m → X 55 j = M 2 j) : Cm mX9_faultOf [vR 54] X (fun r X' => r = some (vI (k : Int)) ∧ FrI X X' ∧ (k = m → RX Mk X')) := by
  obtain ⟨hkm, hC, hst⟩ := hE
  have lp : ∀ Y N, rdC (M 2) (rd0 M) 0 N → RX N Y → FrI X Y → Ev mX9_faultOf 22 [some (vR 54), some (vI ((0 : Nat) : Int))] [] KK Y PP 0 0 (Rz mX9_faultOf (fun r X' => r = some (vI (k : Int)) ∧ FrI X X' ∧ (k = m → RX Mk X'))) := by
    refine up_loop (P := fun i => ∀ Y N, rdC (M 2) (rd0 M) i N → RX N Y → FrI X Y → Ev mX9_faultOf 22 [some (vR 54), some (vI (i : Int))] [] KK Y PP 0 0 _) k ?_ ?_
    · intro Y N hN hY hF
      have e := rdC_uniq k N Mk hN hC
      subst e
      have y1 : Y 54 1 = m := by rw [hF.1 1 (by decide)]; exact x1
      have y55 : Y 55 = X 55 := hF.2 55 (by decide) (by decide)
      by_cases hk : k = m
      · refine ev_iload_n dX9_faultOf_22 rfl ?_
        first | refine ev_aload_n dX9_faultOf_23 rfl ?_ | refine ev_aloadX_n dX9_faultOf_23 rfl ?_
        refine ev_gI 1 dX9_faultOf_24 fX9_64 rfl (by first | rfl | assumption) rfl ?_
        rw [y1]
        refine ev_icmp_ge (tgt := 49) dX9_faultOf_27 (by decide) (by omega) (by omega) (fun hb27 => ?_) (fun hb27 => ?_)
        · refine ev_iload_n dX9_faultOf_49 rfl ?_
          exact ev_ireturn dX9_faultOf_50 ⟨_, rfl, rfl⟩ (rz ⟨rfl, hF, fun _ => hY⟩)
        · omega
      · have hz := hl k (by omega)
        have el := xl k (by omega)
        have hR := rdC_RI h0 k N (fun j hj => hl j (by omega)) hN
        refine ev_iload_n dX9_faultOf_22 rfl ?_
        first | refine ev_aload_n dX9_faultOf_23 rfl ?_ | refine ev_aloadX_n dX9_faultOf_23 rfl ?_
        refine ev_gI 1 dX9_faultOf_24 fX9_64 rfl (by first | rfl | assumption) rfl ?_
        rw [y1]
        refine ev_icmp_ge (tgt := 49) dX9_faultOf_27 (by decide) (by omega) (by omega) (fun hb27 => ?_) (fun hb27 => ?_)
        · refine ev_iload_n dX9_faultOf_49 rfl ?_
          exact ev_ireturn dX9_faultOf_50 ⟨_, rfl, rfl⟩ (rz ⟨rfl, by first | exact hF.tr hZ | omega, fun h => absurd h hk⟩)
        · first | refine ev_aload_n dX9_faultOf_30 rfl ?_ | refine ev_aloadX_n dX9_faultOf_30 rfl ?_
          first | refine ev_aload_n dX9_faultOf_31 rfl ?_ | refine ev_aloadX_n dX9_faultOf_31 rfl ?_
          refine ev_getR dX9_faultOf_32 fX9_7 rfl (by first | rfl | assumption) (by first | rfl | assumption) ?_
          refine ev_iload_n dX9_faultOf_35 rfl ?_
          refine ev_iaload dX9_faultOf_36 (by first | rfl | assumption) (by omega) (by omega) (by decide) ?_
          rw [y55, el]
          refine ev_callv (ci := 9) (k_isGood hR hY hz.1 hz.2) dX9_faultOf_37 tX9_isGood.1 kX9_119 tX9_isGood.2.1 tX9_isGood.2.2.1 rfl (by first | rfl | assumption) tX9_isGood.2.2.2 ⟨⟨Nat.le_of_ble_eq_true rfl, Nat.le_of_ble_eq_true rfl⟩, Nat.le_of_ble_eq_true rfl, Nat.le_of_ble_eq_true rfl⟩ rfl (Nat.le_of_ble_eq_true rfl) ?_
          rintro r K' Z P' ⟨rfl, rfl, hZ, hG⟩
          obtain ⟨v, rfl, hv⟩ : ∃ v : Int, r = some (vI v) ∧ v = 0 := by rcases hG with ⟨e, q⟩ | ⟨e, N', q1, q2⟩; exact ⟨0, e, rfl⟩; exact absurd q1 (hst (by omega) N')
          refine ev_if_eq (tgt := 49) dX9_faultOf_40 (by decide) (by omega) (fun hb40 => ?_) (fun hb40 => ?_)
          · refine ev_iload_n dX9_faultOf_49 rfl ?_
            exact ev_ireturn dX9_faultOf_50 ⟨_, rfl, rfl⟩ (rz ⟨rfl, by first | exact hF.tr hZ | omega, fun h => absurd h hk⟩)
          · omega
    · intro i hi hP Y N hN hY hF
      have y1 : Y 54 1 = m := by rw [hF.1 1 (by decide)]; exact x1
      have y55 : Y 55 = X 55 := hF.2 55 (by decide) (by decide)
      have hz := hl i (by omega)
      have el := xl i (by omega)
      have hR := rdC_RI h0 i N (fun j hj => hl j (by omega)) hN
      obtain ⟨N1, n1, n2⟩ := rdC_next hC hi hN
      refine ev_iload_n dX9_faultOf_22 rfl ?_
      first | refine ev_aload_n dX9_faultOf_23 rfl ?_ | refine ev_aloadX_n dX9_faultOf_23 rfl ?_
      refine ev_gI 1 dX9_faultOf_24 fX9_64 rfl (by first | rfl | assumption) rfl ?_
      rw [y1]
      refine ev_icmp_ge (tgt := 49) dX9_faultOf_27 (by decide) (by omega) (by omega) (fun hb27 => ?_) (fun hb27 => ?_)
      · omega
      · first | refine ev_aload_n dX9_faultOf_30 rfl ?_ | refine ev_aloadX_n dX9_faultOf_30 rfl ?_
        first | refine ev_aload_n dX9_faultOf_31 rfl ?_ | refine ev_aloadX_n dX9_faultOf_31 rfl ?_
        refine ev_getR dX9_faultOf_32 fX9_7 rfl (by first | rfl | assumption) (by first | rfl | assumption) ?_
        refine ev_iload_n dX9_faultOf_35 rfl ?_
        refine ev_iaload dX9_faultOf_36 (by first | rfl | assumption) (by omega) (by omega) (by decide) ?_
        rw [y55, el]
        refine ev_callv (ci := 9) (k_isGood hR hY hz.1 hz.2) dX9_faultOf_37 tX9_isGood.1 kX9_119 tX9_isGood.2.1 tX9_isGood.2.2.1 rfl (by first | rfl | assumption) tX9_isGood.2.2.2 ⟨⟨Nat.le_of_ble_eq_true rfl, Nat.le_of_ble_eq_true rfl⟩, Nat.le_of_ble_eq_true rfl, Nat.le_of_ble_eq_true rfl⟩ rfl (Nat.le_of_ble_eq_true rfl) ?_
        rintro r K' Z P' ⟨rfl, rfl, hZ, hG⟩
        obtain ⟨v, rfl, hv, N', q1, q2⟩ : ∃ v : Int, r = some (vI v) ∧ v = 1 ∧ ∃ N', rdA N (M 2 i) N' ∧ RX N' Z := by rcases hG with ⟨e, q⟩ | ⟨e, N', q1, q2⟩; exact absurd n1 (q N1); exact ⟨1, e, rfl, N', q1, q2⟩
        refine ev_if_eq (tgt := 49) dX9_faultOf_40 (by decide) (by omega) (fun hb40 => ?_) (fun hb40 => ?_)
        · omega
        · refine ev_iinc dX9_faultOf_43 rfl (by decide) ?_
          refine ev_goto (tgt := 22) dX9_faultOf_46 (by decide) ?_
          exact ev_to (hP Z N' ⟨N, hN, q1⟩ q2 (hF.tr hZ)) (by repeat (first | exact trivial | refine ⟨rfl, ?_⟩)) rfl rfl rfl rfl
  have l0 := lp (fo0 X) (rd0 M) rfl (rx_0 M X) (fri_0 X)
  refine cm_of (by decide +kernel) (fun _ => trivial) (Nat.le_of_ble_eq_true rfl) ?_
  first | refine ev_aload_n dX9_faultOf_0 rfl ?_ | refine ev_aloadX_n dX9_faultOf_0 rfl ?_
  refine ev_iconst dX9_faultOf_1 ?_
  refine ev_pI 2 dX9_faultOf_2 sX9_77 rfl (by first | rfl | assumption) rfl ?_
  first | refine ev_aload_n dX9_faultOf_5 rfl ?_ | refine ev_aloadX_n dX9_faultOf_5 rfl ?_
  refine ev_iconst dX9_faultOf_6 ?_
  refine ev_pI 3 dX9_faultOf_7 sX9_74 rfl (by first | rfl | assumption) rfl ?_
  first | refine ev_aload_n dX9_faultOf_10 rfl ?_ | refine ev_aloadX_n dX9_faultOf_10 rfl ?_
  refine ev_iconst dX9_faultOf_11 ?_
  refine ev_pI 4 dX9_faultOf_12 sX9_71 rfl (by first | rfl | assumption) rfl ?_
  first | refine ev_aload_n dX9_faultOf_15 rfl ?_ | refine ev_aloadX_n dX9_faultOf_15 rfl ?_
  refine ev_iconst dX9_faultOf_16 ?_
  refine ev_pI 5 dX9_faultOf_17 sX9_80 rfl (by first | rfl | assumption) rfl ?_
  refine ev_iconst dX9_faultOf_20 ?_
  refine ev_istore_n dX9_faultOf_21 (by decide) ?_
  exact ev_to l0 (by repeat (first | exact trivial | refine ⟨rfl, ?_⟩)) rfl rfl rfl rfl
theorem k_fault {M Mk X : Mm} {m k : Nat} (hm : m ≤ 36) (h0 : RI (rd0 M)) (hl : ∀ j : Nat, j < m → 1 ≤ M 2 j ∧ M 2 j ≤ 126) (hE : rdE M m k Mk) (x1 : X 54 1 = m) (xl : ∀ j : Nat, j < m → X 55 j = M 2 j) : Cm mX9_fault [vR 54] X (fun r X' => r = some (vI (k : Int)) ∧ FrI X X') := by
  refine cm_of (by decide +kernel) (fun _ => trivial) (Nat.le_of_ble_eq_true rfl) ?_
  first | refine ev_aload_n dX9_fault_0 rfl ?_ | refine ev_aloadX_n dX9_fault_0 rfl ?_
  refine ev_callv (ci := 9) (k_faultOf hm h0 hl hE x1 xl) dX9_fault_1 tX9_faultOf.1 kX9_122 tX9_faultOf.2.1 tX9_faultOf.2.2.1 rfl (by first | rfl | assumption) tX9_faultOf.2.2.2 ⟨⟨Nat.le_of_ble_eq_true rfl, Nat.le_of_ble_eq_true rfl⟩, Nat.le_of_ble_eq_true rfl, Nat.le_of_ble_eq_true rfl⟩ rfl (Nat.le_of_ble_eq_true rfl) ?_
  rintro r K' Y P' ⟨rfl, rfl, rfl, q1, q2⟩
  exact ev_ireturn dX9_fault_4 ⟨_, rfl, rfl⟩ (rz ⟨rfl, q1⟩)
def pgK (Y : Mm) : Mm := upM (upM (upM (rwc (upM Y 54 8 (Y 54 2)) 57 (cpS 24 (Y 56) (Y 57))) 54 20 0) 54 9 (Y 54 9 + 1)) 54 1 0
theorem k_program {M Mk X : Mm} {m k : Nat} (hm : m ≤ 36) (h0 : RI (rd0 M)) (hl : ∀ j : Nat, j < m → 1 ≤ M 2 j ∧ M 2 j ≤ 126) (hE : rdE M m k Mk) (x1 : X 54 1 = m) (xl : ∀ j : Nat, j < m → X 55 j = M 2 j) : Cm mX9_program [vR 54] X (fun r X' => (¬ (k = m ∧ Mk 3 1 ≠ -1 ∧ Mk 3 2 = fml (Mk 3 1)) ∧ r = some (vI (-103)) ∧ FrI X X') ∨ ((k = m ∧ Mk 3 1 ≠ -1 ∧ Mk 3 2 = fml (Mk 3 1)) ∧ r = some (vI (Mk 4 4)) ∧ ∃ Y, RX Mk Y ∧ FrI X Y ∧ X' = chM (pgK Y))) := by
  have hR : RI Mk := rdC_RI h0 k Mk (fun j hj => hl j (by have := hE.1; omega)) hE.2.1
  obtain ⟨c, i1, i2, i3, i4, i5, i6, i7, i8, i9, i10⟩ := hR.rd
  have hkm := hE.1
  refine cm_of (by decide +kernel) (fun _ => trivial) (Nat.le_of_ble_eq_true rfl) ?_
  first | refine ev_aload_n dX9_program_0 rfl ?_ | refine ev_aloadX_n dX9_program_0 rfl ?_
  refine ev_callv (ci := 9) (k_faultOf hm h0 hl hE x1 xl) dX9_program_1 tX9_faultOf.1 kX9_122 tX9_faultOf.2.1 tX9_faultOf.2.2.1 rfl (by first | rfl | assumption) tX9_faultOf.2.2.2 ⟨⟨Nat.le_of_ble_eq_true rfl, Nat.le_of_ble_eq_true rfl⟩, Nat.le_of_ble_eq_true rfl, Nat.le_of_ble_eq_true rfl⟩ rfl (Nat.le_of_ble_eq_true rfl) ?_
  rintro r K' Y P' ⟨rfl, rfl, rfl, q1, q2⟩
  have y1 : Y 54 1 = m := by rw [q1.1 1 (by decide)]; exact x1
  by_cases hk : k = m
  case neg =>
    first | refine ev_aload_n dX9_program_4 rfl ?_ | refine ev_aloadX_n dX9_program_4 rfl ?_
    refine ev_gI 1 dX9_program_5 fX9_64 rfl (by first | rfl | assumption) rfl ?_
    rw [y1]
    refine ev_icmp_lt (tgt := 32) dX9_program_8 (by decide) (by omega) (by omega) (fun hb8 => ?_) (fun hb8 => ?_)
    · refine ev_bipush dX9_program_32 ?_
      exact ev_ireturn dX9_program_34 ⟨_, rfl, rfl⟩ (rz (Or.inl ⟨fun z => hk z.1, rfl, q1⟩))
    · omega
  have hY := q2 hk
  by_cases h1 : Mk 3 1 = -1
  · have y3 := hY.h0 h1
    first | refine ev_aload_n dX9_program_4 rfl ?_ | refine ev_aloadX_n dX9_program_4 rfl ?_
    refine ev_gI 1 dX9_program_5 fX9_64 rfl (by first | rfl | assumption) rfl ?_
    rw [y1]
    refine ev_icmp_lt (tgt := 32) dX9_program_8 (by decide) (by omega) (by omega) (fun hb8 => ?_) (fun hb8 => ?_)
    · refine ev_bipush dX9_program_32 ?_
      exact ev_ireturn dX9_program_34 ⟨_, rfl, rfl⟩ (rz (Or.inl ⟨fun z => z.2.1 h1, rfl, q1⟩))
    · first | refine ev_aload_n dX9_program_11 rfl ?_ | refine ev_aloadX_n dX9_program_11 rfl ?_
      refine ev_gI 3 dX9_program_12 fX9_74 rfl (by first | rfl | assumption) rfl ?_
      rw [y3]
      refine ev_if_eq (tgt := 32) dX9_program_15 (by decide) (by omega) (fun hb15 => ?_) (fun hb15 => ?_)
      · refine ev_bipush dX9_program_32 ?_
        exact ev_ireturn dX9_program_34 ⟨_, rfl, rfl⟩ (rz (Or.inl ⟨fun z => z.2.1 h1, rfl, q1⟩))
      · omega
  have hx := hY.h1 h1
  have h4 := i4 h1
  have hlg := lg_fm (kd := Mk 3 1) (by omega)
  have hl5 := sl5 (fm (Mk 3 1)) (fm_lt _)
  have hl' : fml (Mk 3 1) ≤ 5 := by show ((s_len.getD (fm (Mk 3 1)) 0 : Nat) : Int) ≤ 5; omega
  have hmn := hY.mn
  have u54 : ∀ (Z : Mm) (i w j : Int), j ≠ i → upM Z 54 i w 54 j = Z 54 j := fun Z i w j h => upM_n (Or.inr h)
  have r54 : ∀ (Z : Mm) (f : Int → Int) (j : Int), rwc Z 57 f 54 j = Z 54 j := fun Z f j => by rw [rwc_ne (by decide)]
  have c8 : chM (pgK Y) 54 8 = Mk 4 4 := by
    unfold chM pgK
    rw [rwc_ne (by decide), u54 _ _ _ _ (by decide), u54 _ _ _ _ (by decide), u54 _ _ _ _ (by decide), u54 _ _ _ _ (by decide), r54, upM_s]
    exact hmn
  first | refine ev_aload_n dX9_program_4 rfl ?_ | refine ev_aloadX_n dX9_program_4 rfl ?_
  refine ev_gI 1 dX9_program_5 fX9_64 rfl (by first | rfl | assumption) rfl ?_
  rw [y1]
  refine ev_icmp_lt (tgt := 32) dX9_program_8 (by decide) (by omega) (by omega) (fun hb8 => ?_) (fun hb8 => ?_)
  · refine ev_bipush dX9_program_32 ?_
    exact ev_ireturn dX9_program_34 ⟨_, rfl, rfl⟩ (rz (Or.inl ⟨fun z => by have := z.2.2; omega, rfl, q1⟩))
  · first | refine ev_aload_n dX9_program_11 rfl ?_ | refine ev_aloadX_n dX9_program_11 rfl ?_
    refine ev_gI 3 dX9_program_12 fX9_74 rfl (by first | rfl | assumption) rfl ?_
    rw [hx.1]
    refine ev_if_eq (tgt := 32) dX9_program_15 (by decide) (by omega) (fun hb15 => ?_) (fun hb15 => ?_)
    · refine ev_bipush dX9_program_32 ?_
      exact ev_ireturn dX9_program_34 ⟨_, rfl, rfl⟩ (rz (Or.inl ⟨fun z => by have := z.2.2; omega, rfl, q1⟩))
    · first | refine ev_aload_n dX9_program_18 rfl ?_ | refine ev_aloadX_n dX9_program_18 rfl ?_
      refine ev_gI 3 dX9_program_19 fX9_74 rfl (by first | rfl | assumption) rfl ?_
      rw [hx.1]
      first | refine ev_aload_n dX9_program_22 rfl ?_ | refine ev_aloadX_n dX9_program_22 rfl ?_
      refine ev_gI 4 dX9_program_23 fX9_71 rfl (by first | rfl | assumption) rfl ?_
      rw [hx.2]
      refine ev_calls (k_longOf (by omega) Y) dX9_program_26 tX9_longOf.1 kX9_83 tX9_longOf.2.1 tX9_longOf.2.2 ⟨⟨Nat.le_of_ble_eq_true rfl, Nat.le_of_ble_eq_true rfl⟩, Nat.le_of_ble_eq_true rfl, Nat.le_of_ble_eq_true rfl⟩ rfl (Nat.le_of_ble_eq_true rfl) ?_
      rintro r K' M' P' ⟨rfl, rfl, rfl, hM'⟩
      rw [hM']
      clear hM' M'
      rw [hlg]
      refine ev_icmp_eq (tgt := 35) dX9_program_29 (by decide) (by omega) (by omega) (fun hb29 => ?_) (fun hb29 => ?_)
      · first | refine ev_aload_n dX9_program_35 rfl ?_ | refine ev_aloadX_n dX9_program_35 rfl ?_
        first | refine ev_aload_n dX9_program_36 rfl ?_ | refine ev_aloadX_n dX9_program_36 rfl ?_
        refine ev_gI 2 dX9_program_37 fX9_77 rfl (by first | rfl | assumption) rfl ?_
        refine ev_pI 8 dX9_program_40 sX9_126 rfl (by first | rfl | assumption) rfl ?_
        first | refine ev_aload_n dX9_program_43 rfl ?_ | refine ev_aloadX_n dX9_program_43 rfl ?_
        refine ev_getR dX9_program_44 fX9_13 rfl (by first | rfl | assumption) (by first | rfl | assumption) ?_
        first | refine ev_aload_n dX9_program_47 rfl ?_ | refine ev_aloadX_n dX9_program_47 rfl ?_
        refine ev_getR dX9_program_48 fX9_16 rfl (by first | rfl | assumption) (by first | rfl | assumption) ?_
        refine ev_calls (k_copy (c := 56) (c2 := 57) (N := 24) rfl rfl (by decide) (by decide) _) dX9_program_51 tX9_copy.1 kX9_129 tX9_copy.2.1 tX9_copy.2.2 ⟨⟨Nat.le_of_ble_eq_true rfl, Nat.le_of_ble_eq_true rfl⟩, Nat.le_of_ble_eq_true rfl, Nat.le_of_ble_eq_true rfl⟩ rfl (Nat.le_of_ble_eq_true rfl) ?_
        rintro r K' M' P' ⟨rfl, rfl, rfl, hM'⟩
        rw [hM']
        clear hM' M'
        rw [upM_o (show (56 : Nat) ≠ 54 by decide), upM_o (show (57 : Nat) ≠ 54 by decide)]
        first | refine ev_aload_n dX9_program_54 rfl ?_ | refine ev_aloadX_n dX9_program_54 rfl ?_
        refine ev_iconst dX9_program_55 ?_
        refine ev_pI 20 dX9_program_56 sX9_133 rfl (by first | rfl | assumption) rfl ?_
        first | refine ev_aload_n dX9_program_59 rfl ?_ | refine ev_aloadX_n dX9_program_59 rfl ?_
        refine ev_dup dX9_program_60 ?_
        refine ev_gI 9 dX9_program_61 fX9_136 rfl (by first | rfl | assumption) rfl ?_
        rw [u54 _ _ _ _ (by decide), r54, u54 _ _ _ _ (by decide)]
        refine ev_iconst dX9_program_64 ?_
        refine ev_iadd dX9_program_65 ?_
        refine ev_pI 9 dX9_program_66 sX9_136 rfl (by first | rfl | assumption) rfl ?_
        first | refine ev_aload_n dX9_program_69 rfl ?_ | refine ev_aloadX_n dX9_program_69 rfl ?_
        refine ev_iconst dX9_program_70 ?_
        refine ev_pI 1 dX9_program_71 sX9_64 rfl (by first | rfl | assumption) rfl ?_
        first | refine ev_aload_n dX9_program_74 rfl ?_ | refine ev_aloadX_n dX9_program_74 rfl ?_
        refine ev_callv (ci := 9) (k_changed (pgK Y)) dX9_program_75 tX9_changed.1 kX9_139 tX9_changed.2.1 tX9_changed.2.2.1 rfl (by first | rfl | assumption) tX9_changed.2.2.2 ⟨⟨Nat.le_of_ble_eq_true rfl, Nat.le_of_ble_eq_true rfl⟩, Nat.le_of_ble_eq_true rfl, Nat.le_of_ble_eq_true rfl⟩ rfl (Nat.le_of_ble_eq_true rfl) ?_
        rintro r K' M' P' ⟨rfl, rfl, rfl, hM'⟩
        rw [hM']
        clear hM' M'
        first | refine ev_aload_n dX9_program_78 rfl ?_ | refine ev_aloadX_n dX9_program_78 rfl ?_
        refine ev_gI 8 dX9_program_79 fX9_126 rfl (by first | rfl | assumption) rfl ?_
        rw [c8]
        exact ev_ireturn dX9_program_82 ⟨_, rfl, rfl⟩ (rz (Or.inr ⟨⟨hk, h1, by omega⟩, rfl, Y, hY, q1, rfl⟩))
      · refine ev_bipush dX9_program_32 ?_
        exact ev_ireturn dX9_program_34 ⟨_, rfl, rfl⟩ (rz (Or.inl ⟨fun z => by have := z.2.2; omega, rfl, q1⟩))
