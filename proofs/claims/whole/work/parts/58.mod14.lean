/-! ===== the reference: counts ===== -/
theorem nlp_bd' (kf : Int → Int) (i : Nat) : 0 ≤ nlp kf i ∧ nlp kf i ≤ i := nlp_bd kf i
theorem k_stepsBy1 {n : Nat} (M : Mm) (hs : M 54 8 = n) (hn : n ≤ 6) (hb : ∀ j, 0 ≤ j → j < 4 * (n : Int) → -1000 ≤ M 57 j ∧ M 57 j ≤ 1000) : Cm mX9_stepsBy [vR 54, vI 1] M (fun r M' => r = some (vI (nlp (mK (M 57)) n)) ∧ M' = M) := by
  refine cm_of (by decide +kernel) (fun _ => trivial) (Nat.le_of_ble_eq_true rfl) ?_
  refine ev_iconst dX9_stepsBy_0 ?_
  refine ev_istore_n dX9_stepsBy_1 (by decide) ?_
  refine ev_iconst dX9_stepsBy_2 ?_
  refine ev_istore_n dX9_stepsBy_3 (by decide) ?_
  refine ev_to (L' := [some (vR 54), some (vI 1), some (vI (nlp (mK (M 57)) (0 : Nat))), some (vI ((0 : Nat) : Int))]) (S' := []) (M' := M) (k' := 0) (n' := 0) ?_ (by repeat (first | exact trivial | refine ⟨rfl, ?_⟩)) rfl rfl rfl rfl
  refine up_loop (P := fun i => Ev mX9_stepsBy 4 [some (vR 54), some (vI 1), some (vI (nlp (mK (M 57)) i)), some (vI (i : Int))] [] KK (M) PP 0 0 _) n ?_ ?_
  · refine ev_iload_n dX9_stepsBy_4 rfl ?_
    first | refine ev_aload_n dX9_stepsBy_5 rfl ?_ | refine ev_aloadX_n dX9_stepsBy_5 rfl ?_
    refine ev_gI 8 dX9_stepsBy_6 fX9_126 rfl (by first | rfl | assumption) rfl ?_
    rw [hs]
    refine ev_icmp_ge (tgt := 61) dX9_stepsBy_9 (by decide) (by omega) (by omega) (fun hb9 => ?_) (fun hb9 => ?_)
    · refine ev_iload_n dX9_stepsBy_61 rfl ?_
      exact ev_ireturn dX9_stepsBy_62 ⟨_, rfl, rfl⟩ (rz ⟨rfl, rfl⟩)
    · omega
  · intro i hi hP
    have b := hb (4 * (i : Int)) (by omega) (by omega)
    have e1 : M 57 (4 * (i : Int)) = mK (M 57) i := rfl
    rw [e1] at b
    simp only [nlp] at hP
    refine ev_iload_n dX9_stepsBy_4 rfl ?_
    first | refine ev_aload_n dX9_stepsBy_5 rfl ?_ | refine ev_aloadX_n dX9_stepsBy_5 rfl ?_
    refine ev_gI 8 dX9_stepsBy_6 fX9_126 rfl (by first | rfl | assumption) rfl ?_
    rw [hs]
    refine ev_icmp_ge (tgt := 61) dX9_stepsBy_9 (by decide) (by omega) (by omega) (fun hb9 => ?_) (fun hb9 => ?_)
    · omega
    · refine ev_iload_n dX9_stepsBy_12 rfl ?_
      refine ev_iload_n dX9_stepsBy_13 rfl ?_
      refine ev_iconst dX9_stepsBy_14 ?_
      refine ev_icmp_ne (tgt := 35) dX9_stepsBy_15 (by decide) (by omega) (by omega) (fun hb15 => ?_) (fun hb15 => ?_)
      · omega
      · first | refine ev_aload_n dX9_stepsBy_18 rfl ?_ | refine ev_aloadX_n dX9_stepsBy_18 rfl ?_
        refine ev_iload_n dX9_stepsBy_19 rfl ?_
        refine ev_callv (ci := 9) (k_kind (by omega) (by omega) M) dX9_stepsBy_20 tX9_kind.1 kX9_146 tX9_kind.2.1 tX9_kind.2.2.1 rfl (by first | rfl | assumption) tX9_kind.2.2.2 ⟨⟨Nat.le_of_ble_eq_true rfl, Nat.le_of_ble_eq_true rfl⟩, Nat.le_of_ble_eq_true rfl, Nat.le_of_ble_eq_true rfl⟩ rfl (Nat.le_of_ble_eq_true rfl) ?_
        rintro r K' M' P' ⟨rfl, rfl, rfl, hM'⟩
        rw [hM']
        clear hM' M'
        rw [e1]
        refine ev_iconst dX9_stepsBy_23 ?_
        refine ev_icmp_ne (tgt := 31) dX9_stepsBy_24 (by decide) (by omega) (by omega) (fun hb24 => ?_) (fun hb24 => ?_)
        · refine ev_iconst dX9_stepsBy_31 ?_
          refine ev_goto (tgt := 53) dX9_stepsBy_32 (by decide) ?_
          refine ev_iadd dX9_stepsBy_53 ?_
          refine ev_istore_n dX9_stepsBy_54 (by decide) ?_
          refine ev_iinc dX9_stepsBy_55 rfl (by decide) ?_
          refine ev_goto (tgt := 4) dX9_stepsBy_58 (by decide) ?_
          first | rw [if_pos (by omega)] at hP | rw [if_neg (by omega)] at hP
          exact ev_to hP (by repeat (first | exact trivial | refine ⟨rfl, ?_⟩)) rfl rfl rfl rfl
        · refine ev_iconst dX9_stepsBy_27 ?_
          refine ev_goto (tgt := 53) dX9_stepsBy_28 (by decide) ?_
          refine ev_iadd dX9_stepsBy_53 ?_
          refine ev_istore_n dX9_stepsBy_54 (by decide) ?_
          refine ev_iinc dX9_stepsBy_55 rfl (by decide) ?_
          refine ev_goto (tgt := 4) dX9_stepsBy_58 (by decide) ?_
          first | rw [if_pos (by omega)] at hP | rw [if_neg (by omega)] at hP
          exact ev_to hP (by repeat (first | exact trivial | refine ⟨rfl, ?_⟩)) rfl rfl rfl rfl
theorem k_stepsBy3 {n : Nat} (M : Mm) (hs : M 54 8 = n) (hn : n ≤ 6) {A : Nat → PS} {r : Int} (hF : mFA M n A r) : Cm mX9_stepsBy [vR 54, vI 3] M (fun r M' => r = some (vI (sumS (deadV A) n)) ∧ M' = M) := by
  refine cm_of (by decide +kernel) (fun _ => trivial) (Nat.le_of_ble_eq_true rfl) ?_
  refine ev_iconst dX9_stepsBy_0 ?_
  refine ev_istore_n dX9_stepsBy_1 (by decide) ?_
  refine ev_iconst dX9_stepsBy_2 ?_
  refine ev_istore_n dX9_stepsBy_3 (by decide) ?_
  refine ev_to (L' := [some (vR 54), some (vI 3), some (vI (sumS (deadV A) (0 : Nat))), some (vI ((0 : Nat) : Int))]) (S' := []) (M' := M) (k' := 0) (n' := 0) ?_ (by repeat (first | exact trivial | refine ⟨rfl, ?_⟩)) rfl rfl rfl rfl
  refine up_loop (P := fun i => Ev mX9_stepsBy 4 [some (vR 54), some (vI 3), some (vI (sumS (deadV A) i)), some (vI (i : Int))] [] KK (M) PP 0 0 _) n ?_ ?_
  · refine ev_iload_n dX9_stepsBy_4 rfl ?_
    first | refine ev_aload_n dX9_stepsBy_5 rfl ?_ | refine ev_aloadX_n dX9_stepsBy_5 rfl ?_
    refine ev_gI 8 dX9_stepsBy_6 fX9_126 rfl (by first | rfl | assumption) rfl ?_
    rw [hs]
    refine ev_icmp_ge (tgt := 61) dX9_stepsBy_9 (by decide) (by omega) (by omega) (fun hb9 => ?_) (fun hb9 => ?_)
    · refine ev_iload_n dX9_stepsBy_61 rfl ?_
      exact ev_ireturn dX9_stepsBy_62 ⟨_, rfl, rfl⟩ (rz ⟨rfl, rfl⟩)
    · omega
  · intro i hi hP
    refine ev_iload_n dX9_stepsBy_4 rfl ?_
    first | refine ev_aload_n dX9_stepsBy_5 rfl ?_ | refine ev_aloadX_n dX9_stepsBy_5 rfl ?_
    refine ev_gI 8 dX9_stepsBy_6 fX9_126 rfl (by first | rfl | assumption) rfl ?_
    rw [hs]
    refine ev_icmp_ge (tgt := 61) dX9_stepsBy_9 (by decide) (by omega) (by omega) (fun hb9 => ?_) (fun hb9 => ?_)
    · omega
    · refine ev_iload_n dX9_stepsBy_12 rfl ?_
      refine ev_iload_n dX9_stepsBy_13 rfl ?_
      refine ev_iconst dX9_stepsBy_14 ?_
      refine ev_icmp_ne (tgt := 35) dX9_stepsBy_15 (by decide) (by omega) (by omega) (fun hb15 => ?_) (fun hb15 => ?_)
      · refine ev_iload_n dX9_stepsBy_35 rfl ?_
        refine ev_iconst dX9_stepsBy_36 ?_
        refine ev_icmp_ne (tgt := 48) dX9_stepsBy_37 (by decide) (by omega) (by omega) (fun hb37 => ?_) (fun hb37 => ?_)
        · omega
        · first | refine ev_aload_n dX9_stepsBy_40 rfl ?_ | refine ev_aloadX_n dX9_stepsBy_40 rfl ?_
          refine ev_iload_n dX9_stepsBy_41 rfl ?_
          refine ev_callv (ci := 9) (k_dead (n := n) (k := i) (by omega) hn M hF) dX9_stepsBy_42 tX9_dead.1 kX9_260 tX9_dead.2.1 tX9_dead.2.2.1 rfl (by first | rfl | assumption) tX9_dead.2.2.2 ⟨⟨Nat.le_of_ble_eq_true rfl, Nat.le_of_ble_eq_true rfl⟩, Nat.le_of_ble_eq_true rfl, Nat.le_of_ble_eq_true rfl⟩ rfl (Nat.le_of_ble_eq_true rfl) ?_
          rintro r K' M' P' ⟨rfl, rfl, rfl, hM'⟩
          rw [hM']
          clear hM' M'
          refine ev_goto (tgt := 53) dX9_stepsBy_45 (by decide) ?_
          refine ev_iadd dX9_stepsBy_53 ?_
          refine ev_istore_n dX9_stepsBy_54 (by decide) ?_
          refine ev_iinc dX9_stepsBy_55 rfl (by decide) ?_
          refine ev_goto (tgt := 4) dX9_stepsBy_58 (by decide) ?_
          exact ev_to hP (by repeat (first | exact trivial | refine ⟨rfl, ?_⟩)) rfl rfl rfl rfl
      · omega
theorem k_stepsBy4 {n : Nat} (M : Mm) (hs : M 54 8 = n) (hn : n ≤ 6) (hb : ∀ j, 0 ≤ j → j < 4 * (n : Int) → -1000 ≤ M 57 j ∧ M 57 j ≤ 1000) {A : Nat → PS} {r : Int} (hF : mFA M n A r) : Cm mX9_stepsBy [vR 54, vI 4] M (fun r M' => r = some (vI (sumS (idleV (mK (M 57)) A) n)) ∧ M' = M) := by
  refine cm_of (by decide +kernel) (fun _ => trivial) (Nat.le_of_ble_eq_true rfl) ?_
  refine ev_iconst dX9_stepsBy_0 ?_
  refine ev_istore_n dX9_stepsBy_1 (by decide) ?_
  refine ev_iconst dX9_stepsBy_2 ?_
  refine ev_istore_n dX9_stepsBy_3 (by decide) ?_
  refine ev_to (L' := [some (vR 54), some (vI 4), some (vI (sumS (idleV (mK (M 57)) A) (0 : Nat))), some (vI ((0 : Nat) : Int))]) (S' := []) (M' := M) (k' := 0) (n' := 0) ?_ (by repeat (first | exact trivial | refine ⟨rfl, ?_⟩)) rfl rfl rfl rfl
  refine up_loop (P := fun i => Ev mX9_stepsBy 4 [some (vR 54), some (vI 4), some (vI (sumS (idleV (mK (M 57)) A) i)), some (vI (i : Int))] [] KK (M) PP 0 0 _) n ?_ ?_
  · refine ev_iload_n dX9_stepsBy_4 rfl ?_
    first | refine ev_aload_n dX9_stepsBy_5 rfl ?_ | refine ev_aloadX_n dX9_stepsBy_5 rfl ?_
    refine ev_gI 8 dX9_stepsBy_6 fX9_126 rfl (by first | rfl | assumption) rfl ?_
    rw [hs]
    refine ev_icmp_ge (tgt := 61) dX9_stepsBy_9 (by decide) (by omega) (by omega) (fun hb9 => ?_) (fun hb9 => ?_)
    · refine ev_iload_n dX9_stepsBy_61 rfl ?_
      exact ev_ireturn dX9_stepsBy_62 ⟨_, rfl, rfl⟩ (rz ⟨rfl, rfl⟩)
    · omega
  · intro i hi hP
    refine ev_iload_n dX9_stepsBy_4 rfl ?_
    first | refine ev_aload_n dX9_stepsBy_5 rfl ?_ | refine ev_aloadX_n dX9_stepsBy_5 rfl ?_
    refine ev_gI 8 dX9_stepsBy_6 fX9_126 rfl (by first | rfl | assumption) rfl ?_
    rw [hs]
    refine ev_icmp_ge (tgt := 61) dX9_stepsBy_9 (by decide) (by omega) (by omega) (fun hb9 => ?_) (fun hb9 => ?_)
    · omega
    · refine ev_iload_n dX9_stepsBy_12 rfl ?_
      refine ev_iload_n dX9_stepsBy_13 rfl ?_
      refine ev_iconst dX9_stepsBy_14 ?_
      refine ev_icmp_ne (tgt := 35) dX9_stepsBy_15 (by decide) (by omega) (by omega) (fun hb15 => ?_) (fun hb15 => ?_)
      · refine ev_iload_n dX9_stepsBy_35 rfl ?_
        refine ev_iconst dX9_stepsBy_36 ?_
        refine ev_icmp_ne (tgt := 48) dX9_stepsBy_37 (by decide) (by omega) (by omega) (fun hb37 => ?_) (fun hb37 => ?_)
        · first | refine ev_aload_n dX9_stepsBy_48 rfl ?_ | refine ev_aloadX_n dX9_stepsBy_48 rfl ?_
          refine ev_iload_n dX9_stepsBy_49 rfl ?_
          refine ev_callv (ci := 9) (k_idle (n := n) (k := i) (by omega) hn M hb hF) dX9_stepsBy_50 tX9_idle.1 kX9_263 tX9_idle.2.1 tX9_idle.2.2.1 rfl (by first | rfl | assumption) tX9_idle.2.2.2 ⟨⟨Nat.le_of_ble_eq_true rfl, Nat.le_of_ble_eq_true rfl⟩, Nat.le_of_ble_eq_true rfl, Nat.le_of_ble_eq_true rfl⟩ rfl (Nat.le_of_ble_eq_true rfl) ?_
          rintro r K' M' P' ⟨rfl, rfl, rfl, hM'⟩
          rw [hM']
          clear hM' M'
          refine ev_iadd dX9_stepsBy_53 ?_
          refine ev_istore_n dX9_stepsBy_54 (by decide) ?_
          refine ev_iinc dX9_stepsBy_55 rfl (by decide) ?_
          refine ev_goto (tgt := 4) dX9_stepsBy_58 (by decide) ?_
          exact ev_to hP (by repeat (first | exact trivial | refine ⟨rfl, ?_⟩)) rfl rfl rfl rfl
        · omega
      · omega
noncomputable def kCt (M : Mm) (n : Nat) (A : Nat → PS) (r : Int) (sz : Int → Int) (x : Int) : Int := if x = 0 then (n : Int) else if x = 1 then nlp (mK (M 57)) n else if x = 2 then (if n = 0 then 0 else r) else if x = 3 then sumS (deadV A) n else if x = 4 then sumS (idleV (mK (M 57)) A) n else if x = 5 then (if n = 0 then 0 else crd (A n)) else if x = 6 then sumS sz 5 else if x = 7 then M 54 20 else if x = 8 then M 54 1 else if x = 9 then M 54 9 else -102
theorem kCt_1 {M : Mm} {n : Nat} {A : Nat → PS} {r : Int} {sz : Int → Int} : kCt M n A r sz 1 = nlp (mK (M 57)) n := by unfold kCt; rw [if_neg (by decide), if_pos rfl]
theorem kCt_2 {M : Mm} {n : Nat} {A : Nat → PS} {r : Int} {sz : Int → Int} : kCt M n A r sz 2 = if n = 0 then 0 else r := by unfold kCt; rw [if_neg (by decide), if_neg (by decide), if_pos rfl]
theorem kCt_3 {M : Mm} {n : Nat} {A : Nat → PS} {r : Int} {sz : Int → Int} : kCt M n A r sz 3 = sumS (deadV A) n := by unfold kCt; rw [if_neg (by decide), if_neg (by decide), if_neg (by decide), if_pos rfl]
theorem kCt_4 {M : Mm} {n : Nat} {A : Nat → PS} {r : Int} {sz : Int → Int} : kCt M n A r sz 4 = sumS (idleV (mK (M 57)) A) n := by unfold kCt; rw [if_neg (by decide), if_neg (by decide), if_neg (by decide), if_neg (by decide), if_pos rfl]
theorem kCt_5 {M : Mm} {n : Nat} {A : Nat → PS} {r : Int} {sz : Int → Int} : kCt M n A r sz 5 = if n = 0 then 0 else crd (A n) := by unfold kCt; rw [if_neg (by decide), if_neg (by decide), if_neg (by decide), if_neg (by decide), if_neg (by decide), if_pos rfl]
theorem k_countProgram {n : Nat} {x : Int} (hx : 1 ≤ x) (hx2 : x ≤ 5) (M : Mm) (hK : KI M n) {A : Nat → PS} {r : Int} (hA : 0 < n → mPr M n A r) {sz : Int → Int} : Cm mX9_countProgram [vR 54, vI x] M (fun v M' => v = some (vI (kCt M n A r sz x)) ∧ Kq M M' n) := by
  have hs := hK.sz
  have h6 := hK.n6
  refine cm_of (by decide +kernel) (fun _ => trivial) (Nat.le_of_ble_eq_true rfl) ?_
  first | refine ev_aload_n dX9_countProgram_0 rfl ?_ | refine ev_aloadX_n dX9_countProgram_0 rfl ?_
  refine ev_callv (ci := 9) (k_lacks M (by omega)) dX9_countProgram_1 tX9_lacks.1 kX9_222 tX9_lacks.2.1 tX9_lacks.2.2.1 rfl (by first | rfl | assumption) tX9_lacks.2.2.2 ⟨⟨Nat.le_of_ble_eq_true rfl, Nat.le_of_ble_eq_true rfl⟩, Nat.le_of_ble_eq_true rfl, Nat.le_of_ble_eq_true rfl⟩ rfl (Nat.le_of_ble_eq_true rfl) ?_
  rintro w K' M' P' ⟨rfl, rfl, ⟨v1, rfl, hw1, hv1⟩, hM'⟩
  rw [hM']
  clear hM' M'
  refine ev_if_eq (tgt := 9) dX9_countProgram_4 (by decide) (by omega) (fun hb4 => ?_) (fun hb4 => ?_)
  case refine_2 =>
    have h0 : n = 0 := by have := hv1.mp (by omega); omega
    subst h0
    refine ev_iconst dX9_countProgram_7 ?_
    exact ev_ireturn dX9_countProgram_8 ⟨_, rfl, rfl⟩ (rz ⟨by (have : x = 1 ∨ x = 2 ∨ x = 3 ∨ x = 4 ∨ x = 5 := by omega); rcases this with rfl | rfl | rfl | rfl | rfl; rw [kCt_1]; rfl; rw [kCt_2, if_pos rfl]; rw [kCt_3]; rfl; rw [kCt_4]; rfl; rw [kCt_5, if_pos rfl], Kq.rf hK⟩)
  have hn : 0 < n := by have := (not_congr hv1).mp (by omega); omega
  first | refine ev_aload_n dX9_countProgram_9 rfl ?_ | refine ev_aloadX_n dX9_countProgram_9 rfl ?_
  refine ev_callv (ci := 9) (k_fresh hn M hK (hA hn)) dX9_countProgram_10 tX9_freshen.1 kX9_226 tX9_freshen.2.1 tX9_freshen.2.2.1 rfl (by first | rfl | assumption) tX9_freshen.2.2.2 ⟨⟨Nat.le_of_ble_eq_true rfl, Nat.le_of_ble_eq_true rfl⟩, Nat.le_of_ble_eq_true rfl, Nat.le_of_ble_eq_true rfl⟩ rfl (Nat.le_of_ble_eq_true rfl) ?_
  rintro w K' M1 P' ⟨rfl, rfl, rfl, q1, q2⟩
  have h8 := q1.2.sz
  have e57 := q1.p
  have hcn := (q2.2.2.2 n (Nat.le_refl n)).2
  have hnn : n ≠ 0 := by omega
  have hd : x = 1 ∨ x = 2 ∨ x = 3 ∨ x = 4 ∨ x = 5 := by omega
  rcases hd with rfl | rfl | rfl | rfl | rfl
  · refine ev_iload_n dX9_countProgram_13 rfl ?_
    refine ev_iconst dX9_countProgram_14 ?_
    refine ev_icmp_ne (tgt := 25) dX9_countProgram_15 (by decide) (by omega) (by omega) (fun hb15 => ?_) (fun hb15 => ?_)
    · refine ev_iload_n dX9_countProgram_25 rfl ?_
      refine ev_iconst dX9_countProgram_26 ?_
      refine ev_icmp_ne (tgt := 42) dX9_countProgram_27 (by decide) (by omega) (by omega) (fun hb27 => ?_) (fun hb27 => ?_)
      · first | refine ev_aload_n dX9_countProgram_42 rfl ?_ | refine ev_aloadX_n dX9_countProgram_42 rfl ?_
        refine ev_iload_n dX9_countProgram_43 rfl ?_
        refine ev_callv (ci := 9) (k_stepsBy1 M1 h8 h6 q1.2.bd) dX9_countProgram_44 tX9_stepsBy.1 kX9_325 tX9_stepsBy.2.1 tX9_stepsBy.2.2.1 rfl (by first | rfl | assumption) tX9_stepsBy.2.2.2 ⟨⟨Nat.le_of_ble_eq_true rfl, Nat.le_of_ble_eq_true rfl⟩, Nat.le_of_ble_eq_true rfl, Nat.le_of_ble_eq_true rfl⟩ rfl (Nat.le_of_ble_eq_true rfl) ?_
        rintro r K' M' P' ⟨rfl, rfl, rfl, hM'⟩
        rw [hM']
        clear hM' M'
        exact ev_ireturn dX9_countProgram_47 ⟨_, rfl, rfl⟩ (rz ⟨by rw [e57, kCt_1], q1⟩)
      · omega
    · omega
  · refine ev_iload_n dX9_countProgram_13 rfl ?_
    refine ev_iconst dX9_countProgram_14 ?_
    refine ev_icmp_ne (tgt := 25) dX9_countProgram_15 (by decide) (by omega) (by omega) (fun hb15 => ?_) (fun hb15 => ?_)
    · omega
    · first | refine ev_aload_n dX9_countProgram_18 rfl ?_ | refine ev_aloadX_n dX9_countProgram_18 rfl ?_
      refine ev_gI 17 dX9_countProgram_19 fX9_212 rfl (by first | rfl | assumption) rfl ?_
      rw [q2.1]
      refine ev_goto (tgt := 47) dX9_countProgram_22 (by decide) ?_
      exact ev_ireturn dX9_countProgram_47 ⟨_, rfl, rfl⟩ (rz ⟨by rw [kCt_2, if_neg hnn], q1⟩)
  · refine ev_iload_n dX9_countProgram_13 rfl ?_
    refine ev_iconst dX9_countProgram_14 ?_
    refine ev_icmp_ne (tgt := 25) dX9_countProgram_15 (by decide) (by omega) (by omega) (fun hb15 => ?_) (fun hb15 => ?_)
    · refine ev_iload_n dX9_countProgram_25 rfl ?_
      refine ev_iconst dX9_countProgram_26 ?_
      refine ev_icmp_ne (tgt := 42) dX9_countProgram_27 (by decide) (by omega) (by omega) (fun hb27 => ?_) (fun hb27 => ?_)
      · first | refine ev_aload_n dX9_countProgram_42 rfl ?_ | refine ev_aloadX_n dX9_countProgram_42 rfl ?_
        refine ev_iload_n dX9_countProgram_43 rfl ?_
        refine ev_callv (ci := 9) (k_stepsBy3 M1 h8 h6 q2) dX9_countProgram_44 tX9_stepsBy.1 kX9_325 tX9_stepsBy.2.1 tX9_stepsBy.2.2.1 rfl (by first | rfl | assumption) tX9_stepsBy.2.2.2 ⟨⟨Nat.le_of_ble_eq_true rfl, Nat.le_of_ble_eq_true rfl⟩, Nat.le_of_ble_eq_true rfl, Nat.le_of_ble_eq_true rfl⟩ rfl (Nat.le_of_ble_eq_true rfl) ?_
        rintro r K' M' P' ⟨rfl, rfl, rfl, hM'⟩
        rw [hM']
        clear hM' M'
        exact ev_ireturn dX9_countProgram_47 ⟨_, rfl, rfl⟩ (rz ⟨by rw [kCt_3], q1⟩)
      · omega
    · omega
  · refine ev_iload_n dX9_countProgram_13 rfl ?_
    refine ev_iconst dX9_countProgram_14 ?_
    refine ev_icmp_ne (tgt := 25) dX9_countProgram_15 (by decide) (by omega) (by omega) (fun hb15 => ?_) (fun hb15 => ?_)
    · refine ev_iload_n dX9_countProgram_25 rfl ?_
      refine ev_iconst dX9_countProgram_26 ?_
      refine ev_icmp_ne (tgt := 42) dX9_countProgram_27 (by decide) (by omega) (by omega) (fun hb27 => ?_) (fun hb27 => ?_)
      · first | refine ev_aload_n dX9_countProgram_42 rfl ?_ | refine ev_aloadX_n dX9_countProgram_42 rfl ?_
        refine ev_iload_n dX9_countProgram_43 rfl ?_
        refine ev_callv (ci := 9) (k_stepsBy4 M1 h8 h6 q1.2.bd q2) dX9_countProgram_44 tX9_stepsBy.1 kX9_325 tX9_stepsBy.2.1 tX9_stepsBy.2.2.1 rfl (by first | rfl | assumption) tX9_stepsBy.2.2.2 ⟨⟨Nat.le_of_ble_eq_true rfl, Nat.le_of_ble_eq_true rfl⟩, Nat.le_of_ble_eq_true rfl, Nat.le_of_ble_eq_true rfl⟩ rfl (Nat.le_of_ble_eq_true rfl) ?_
        rintro r K' M' P' ⟨rfl, rfl, rfl, hM'⟩
        rw [hM']
        clear hM' M'
        exact ev_ireturn dX9_countProgram_47 ⟨_, rfl, rfl⟩ (rz ⟨by rw [e57, kCt_4], q1⟩)
      · omega
    · omega
  · refine ev_iload_n dX9_countProgram_13 rfl ?_
    refine ev_iconst dX9_countProgram_14 ?_
    refine ev_icmp_ne (tgt := 25) dX9_countProgram_15 (by decide) (by omega) (by omega) (fun hb15 => ?_) (fun hb15 => ?_)
    · refine ev_iload_n dX9_countProgram_25 rfl ?_
      refine ev_iconst dX9_countProgram_26 ?_
      refine ev_icmp_ne (tgt := 42) dX9_countProgram_27 (by decide) (by omega) (by omega) (fun hb27 => ?_) (fun hb27 => ?_)
      · omega
      · first | refine ev_aload_n dX9_countProgram_30 rfl ?_ | refine ev_aloadX_n dX9_countProgram_30 rfl ?_
        refine ev_getR dX9_countProgram_31 fX9_35 rfl (by first | rfl | assumption) (by first | rfl | assumption) ?_
        first | refine ev_aload_n dX9_countProgram_34 rfl ?_ | refine ev_aloadX_n dX9_countProgram_34 rfl ?_
        refine ev_gI 8 dX9_countProgram_35 fX9_126 rfl (by first | rfl | assumption) rfl ?_
        rw [h8]
        refine ev_iaload dX9_countProgram_38 (by first | rfl | assumption) (by omega) (by omega) (by decide) ?_
        rw [hcn]
        refine ev_goto (tgt := 47) dX9_countProgram_39 (by decide) ?_
        exact ev_ireturn dX9_countProgram_47 ⟨_, rfl, rfl⟩ (rz ⟨by rw [kCt_5, if_neg hnn], q1⟩)
    · omega
theorem k_countOf {n : Nat} {x : Int} (hx : inR x) (M : Mm) (hK : KI M n) {A : Nat → PS} {r : Int} (hA : 0 < n → mPr M n A r) {sz : Int → Int} (hz : rkH M sz) : Cm mX9_countOf [vR 54, vI x] M (fun v M' => v = some (vI (kCt M n A r sz x)) ∧ Kq M M' n) := by
  have hs := hK.sz
  refine cm_of (by decide +kernel) (fun _ => trivial) (Nat.le_of_ble_eq_true rfl) ?_
  refine ev_iload_n dX9_countOf_0 rfl ?_
  rcases (by omega : x = 0 ∨ x = 1 ∨ x = 2 ∨ x = 3 ∨ x = 4 ∨ x = 5 ∨ x = 6 ∨ x = 7 ∨ x = 8 ∨ x = 9 ∨ (x < 0 ∨ 9 < x)) with h1 | h1 | h1 | h1 | h1 | h1 | h1 | h1 | h1 | h1 | h1
  · refine ev_tableIn (off := 55) (tgt := 56) dX9_countOf_1 (by omega) (by omega) (by omega) (by rw [h1]; rfl) (by decide) ?_
    first | refine ev_aload_n dX9_countOf_56 rfl ?_ | refine ev_aloadX_n dX9_countOf_56 rfl ?_
    refine ev_gI 8 dX9_countOf_57 fX9_126 rfl (by first | rfl | assumption) rfl ?_
    rw [hs]
    exact ev_ireturn dX9_countOf_60 ⟨_, rfl, rfl⟩ (rz ⟨by rw [h1]; unfold kCt; rw [if_pos rfl], Kq.rf hK⟩)
  · refine ev_tableIn (off := 60) (tgt := 61) dX9_countOf_1 (by omega) (by omega) (by omega) (by rw [h1]; rfl) (by decide) ?_
    first | refine ev_aload_n dX9_countOf_61 rfl ?_ | refine ev_aloadX_n dX9_countOf_61 rfl ?_
    refine ev_iload_n dX9_countOf_62 rfl ?_
    refine ev_callv (ci := 9) (k_countProgram (x := x) (sz := sz) (by omega) (by omega) M hK hA) dX9_countOf_63 tX9_countProgram.1 kX9_328 tX9_countProgram.2.1 tX9_countProgram.2.2.1 rfl (by first | rfl | assumption) tX9_countProgram.2.2.2 ⟨⟨Nat.le_of_ble_eq_true rfl, Nat.le_of_ble_eq_true rfl⟩, Nat.le_of_ble_eq_true rfl, Nat.le_of_ble_eq_true rfl⟩ rfl (Nat.le_of_ble_eq_true rfl) ?_
    rintro w K' M1 P' ⟨rfl, rfl, rfl, q1⟩
    exact ev_ireturn dX9_countOf_66 ⟨_, rfl, rfl⟩ (rz ⟨rfl, q1⟩)
  · refine ev_tableIn (off := 60) (tgt := 61) dX9_countOf_1 (by omega) (by omega) (by omega) (by rw [h1]; rfl) (by decide) ?_
    first | refine ev_aload_n dX9_countOf_61 rfl ?_ | refine ev_aloadX_n dX9_countOf_61 rfl ?_
    refine ev_iload_n dX9_countOf_62 rfl ?_
    refine ev_callv (ci := 9) (k_countProgram (x := x) (sz := sz) (by omega) (by omega) M hK hA) dX9_countOf_63 tX9_countProgram.1 kX9_328 tX9_countProgram.2.1 tX9_countProgram.2.2.1 rfl (by first | rfl | assumption) tX9_countProgram.2.2.2 ⟨⟨Nat.le_of_ble_eq_true rfl, Nat.le_of_ble_eq_true rfl⟩, Nat.le_of_ble_eq_true rfl, Nat.le_of_ble_eq_true rfl⟩ rfl (Nat.le_of_ble_eq_true rfl) ?_
    rintro w K' M1 P' ⟨rfl, rfl, rfl, q1⟩
    exact ev_ireturn dX9_countOf_66 ⟨_, rfl, rfl⟩ (rz ⟨rfl, q1⟩)
  · refine ev_tableIn (off := 60) (tgt := 61) dX9_countOf_1 (by omega) (by omega) (by omega) (by rw [h1]; rfl) (by decide) ?_
    first | refine ev_aload_n dX9_countOf_61 rfl ?_ | refine ev_aloadX_n dX9_countOf_61 rfl ?_
    refine ev_iload_n dX9_countOf_62 rfl ?_
    refine ev_callv (ci := 9) (k_countProgram (x := x) (sz := sz) (by omega) (by omega) M hK hA) dX9_countOf_63 tX9_countProgram.1 kX9_328 tX9_countProgram.2.1 tX9_countProgram.2.2.1 rfl (by first | rfl | assumption) tX9_countProgram.2.2.2 ⟨⟨Nat.le_of_ble_eq_true rfl, Nat.le_of_ble_eq_true rfl⟩, Nat.le_of_ble_eq_true rfl, Nat.le_of_ble_eq_true rfl⟩ rfl (Nat.le_of_ble_eq_true rfl) ?_
    rintro w K' M1 P' ⟨rfl, rfl, rfl, q1⟩
    exact ev_ireturn dX9_countOf_66 ⟨_, rfl, rfl⟩ (rz ⟨rfl, q1⟩)
  · refine ev_tableIn (off := 60) (tgt := 61) dX9_countOf_1 (by omega) (by omega) (by omega) (by rw [h1]; rfl) (by decide) ?_
    first | refine ev_aload_n dX9_countOf_61 rfl ?_ | refine ev_aloadX_n dX9_countOf_61 rfl ?_
    refine ev_iload_n dX9_countOf_62 rfl ?_
    refine ev_callv (ci := 9) (k_countProgram (x := x) (sz := sz) (by omega) (by omega) M hK hA) dX9_countOf_63 tX9_countProgram.1 kX9_328 tX9_countProgram.2.1 tX9_countProgram.2.2.1 rfl (by first | rfl | assumption) tX9_countProgram.2.2.2 ⟨⟨Nat.le_of_ble_eq_true rfl, Nat.le_of_ble_eq_true rfl⟩, Nat.le_of_ble_eq_true rfl, Nat.le_of_ble_eq_true rfl⟩ rfl (Nat.le_of_ble_eq_true rfl) ?_
    rintro w K' M1 P' ⟨rfl, rfl, rfl, q1⟩
    exact ev_ireturn dX9_countOf_66 ⟨_, rfl, rfl⟩ (rz ⟨rfl, q1⟩)
  · refine ev_tableIn (off := 60) (tgt := 61) dX9_countOf_1 (by omega) (by omega) (by omega) (by rw [h1]; rfl) (by decide) ?_
    first | refine ev_aload_n dX9_countOf_61 rfl ?_ | refine ev_aloadX_n dX9_countOf_61 rfl ?_
    refine ev_iload_n dX9_countOf_62 rfl ?_
    refine ev_callv (ci := 9) (k_countProgram (x := x) (sz := sz) (by omega) (by omega) M hK hA) dX9_countOf_63 tX9_countProgram.1 kX9_328 tX9_countProgram.2.1 tX9_countProgram.2.2.1 rfl (by first | rfl | assumption) tX9_countProgram.2.2.2 ⟨⟨Nat.le_of_ble_eq_true rfl, Nat.le_of_ble_eq_true rfl⟩, Nat.le_of_ble_eq_true rfl, Nat.le_of_ble_eq_true rfl⟩ rfl (Nat.le_of_ble_eq_true rfl) ?_
    rintro w K' M1 P' ⟨rfl, rfl, rfl, q1⟩
    exact ev_ireturn dX9_countOf_66 ⟨_, rfl, rfl⟩ (rz ⟨rfl, q1⟩)
  · refine ev_tableIn (off := 66) (tgt := 67) dX9_countOf_1 (by omega) (by omega) (by omega) (by rw [h1]; rfl) (by decide) ?_
    first | refine ev_aload_n dX9_countOf_67 rfl ?_ | refine ev_aloadX_n dX9_countOf_67 rfl ?_
    refine ev_callv (ci := 9) (k_rackedAll M hK.rkb hz) dX9_countOf_68 tX9_rackedAll.1 kX9_331 tX9_rackedAll.2.1 tX9_rackedAll.2.2.1 rfl (by first | rfl | assumption) tX9_rackedAll.2.2.2 ⟨⟨Nat.le_of_ble_eq_true rfl, Nat.le_of_ble_eq_true rfl⟩, Nat.le_of_ble_eq_true rfl, Nat.le_of_ble_eq_true rfl⟩ rfl (Nat.le_of_ble_eq_true rfl) ?_
    rintro r K' M' P' ⟨rfl, rfl, rfl, hM'⟩
    rw [hM']
    clear hM' M'
    exact ev_ireturn dX9_countOf_71 ⟨_, rfl, rfl⟩ (rz ⟨by rw [h1]; unfold kCt; rw [if_neg (by decide), if_neg (by decide), if_neg (by decide), if_neg (by decide), if_neg (by decide), if_neg (by decide), if_pos rfl], Kq.rf hK⟩)
  · refine ev_tableIn (off := 71) (tgt := 72) dX9_countOf_1 (by omega) (by omega) (by omega) (by rw [h1]; rfl) (by decide) ?_
    first | refine ev_aload_n dX9_countOf_72 rfl ?_ | refine ev_aloadX_n dX9_countOf_72 rfl ?_
    refine ev_gI 20 dX9_countOf_73 fX9_133 rfl (by first | rfl | assumption) rfl ?_
    exact ev_ireturn dX9_countOf_76 ⟨_, rfl, rfl⟩ (rz ⟨by rw [h1]; unfold kCt; rw [if_neg (by decide), if_neg (by decide), if_neg (by decide), if_neg (by decide), if_neg (by decide), if_neg (by decide), if_neg (by decide), if_pos rfl], Kq.rf hK⟩)
  · refine ev_tableIn (off := 76) (tgt := 77) dX9_countOf_1 (by omega) (by omega) (by omega) (by rw [h1]; rfl) (by decide) ?_
    first | refine ev_aload_n dX9_countOf_77 rfl ?_ | refine ev_aloadX_n dX9_countOf_77 rfl ?_
    refine ev_gI 1 dX9_countOf_78 fX9_64 rfl (by first | rfl | assumption) rfl ?_
    exact ev_ireturn dX9_countOf_81 ⟨_, rfl, rfl⟩ (rz ⟨by rw [h1]; unfold kCt; rw [if_neg (by decide), if_neg (by decide), if_neg (by decide), if_neg (by decide), if_neg (by decide), if_neg (by decide), if_neg (by decide), if_neg (by decide), if_pos rfl], Kq.rf hK⟩)
  · refine ev_tableIn (off := 81) (tgt := 82) dX9_countOf_1 (by omega) (by omega) (by omega) (by rw [h1]; rfl) (by decide) ?_
    first | refine ev_aload_n dX9_countOf_82 rfl ?_ | refine ev_aloadX_n dX9_countOf_82 rfl ?_
    refine ev_gI 9 dX9_countOf_83 fX9_136 rfl (by first | rfl | assumption) rfl ?_
    exact ev_ireturn dX9_countOf_86 ⟨_, rfl, rfl⟩ (rz ⟨by rw [h1]; unfold kCt; rw [if_neg (by decide), if_neg (by decide), if_neg (by decide), if_neg (by decide), if_neg (by decide), if_neg (by decide), if_neg (by decide), if_neg (by decide), if_neg (by decide), if_pos rfl], Kq.rf hK⟩)
  · refine ev_tableOut (tgt := 87) dX9_countOf_1 (by omega) (by omega) (by decide) ?_
    refine ev_bipush dX9_countOf_87 ?_
    exact ev_ireturn dX9_countOf_89 ⟨_, rfl, rfl⟩ (rz ⟨by unfold kCt; rw [if_neg (by omega), if_neg (by omega), if_neg (by omega), if_neg (by omega), if_neg (by omega), if_neg (by omega), if_neg (by omega), if_neg (by omega), if_neg (by omega), if_neg (by omega)], Kq.rf hK⟩)
theorem k_count {n : Nat} {x : Int} (hx : inR x) (M : Mm) (hK : KI M n) {A : Nat → PS} {r : Int} (hA : 0 < n → mPr M n A r) {sz : Int → Int} (hz : rkH M sz) : Cm mX9_count [vR 54, vI x] M (fun v M' => v = some (vI (kCt M n A r sz x)) ∧ Kq M M' n) := by
  refine cm_of (by decide +kernel) (fun _ => trivial) (Nat.le_of_ble_eq_true rfl) ?_
  first | refine ev_aload_n dX9_count_0 rfl ?_ | refine ev_aloadX_n dX9_count_0 rfl ?_
  refine ev_iload_n dX9_count_1 rfl ?_
  refine ev_callv (ci := 9) (k_countOf hx M hK hA hz) dX9_count_2 tX9_countOf.1 kX9_334 tX9_countOf.2.1 tX9_countOf.2.2.1 rfl (by first | rfl | assumption) tX9_countOf.2.2.2 ⟨⟨Nat.le_of_ble_eq_true rfl, Nat.le_of_ble_eq_true rfl⟩, Nat.le_of_ble_eq_true rfl, Nat.le_of_ble_eq_true rfl⟩ rfl (Nat.le_of_ble_eq_true rfl) ?_
  rintro w K' M1 P' ⟨rfl, rfl, rfl, q1⟩
  exact ev_ireturn dX9_count_5 ⟨_, rfl, rfl⟩ (rz ⟨rfl, q1⟩)
