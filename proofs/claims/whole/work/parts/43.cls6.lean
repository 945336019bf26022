/-! ===== SumBounds: put, take, by, image, restore walked ===== -/
theorem FrA.sz {M M' : Mm} (h : FrA M M') : M' 9 = M 9 := h.2 9 (by decide) (by decide) (by decide) (by decide)
theorem put_tail {n p : Nat} {M : Mm} (hJ : CJ (M) (n + 1)) {Φ : Pz} (hΦ : ∀ M', CI M' (n + 1) → (∀ j, 0 ≤ j → j < 5 → M' 39 j = 0) → FrA M M' → Φ (some (vI ((n + 1 : Nat) : Int))) M') {u1 u2 u3 u4 u5 u6 u7 : Option V} : Ev mX8_put 105 [some (vR 0), u1, u2, u3, u4, u5, u6, u7] [] KK M PP 0 0 (Rz mX8_put Φ) := by
  first | refine ev_aload_n dX8_put_105 rfl ?_ | refine ev_aloadX_n dX8_put_105 rfl ?_
  refine ev_callv (ci := 8) (c_runJ (by omega) hJ) dX8_put_106 tX8_runAgain.1 kX8_102 tX8_runAgain.2.1 tX8_runAgain.2.2.1 rfl (by first | rfl | assumption) tX8_runAgain.2.2.2 ⟨⟨Nat.le_of_ble_eq_true rfl, Nat.le_of_ble_eq_true rfl⟩, Nat.le_of_ble_eq_true rfl, Nat.le_of_ble_eq_true rfl⟩ rfl (Nat.le_of_ble_eq_true rfl) ?_
  rintro r K' M' P' ⟨rfl, rfl, rfl, q1, q2, q3⟩
  first | refine ev_aload_n dX8_put_109 rfl ?_ | refine ev_aloadX_n dX8_put_109 rfl ?_
  refine ev_getR dX8_put_110 fX8_26 rfl (by first | rfl | assumption) (by first | rfl | assumption) ?_
  refine ev_gI 4 dX8_put_113 fX8_105 rfl (by first | rfl | assumption) rfl ?_
  rw [q3.sz, hJ.sz]
  exact ev_ireturn dX8_put_116 ⟨_, rfl, rfl⟩ (rz (hΦ M' q1 q2 q3))
theorem put_mid {n p : Nat} {kd a b z : Int} (hp : p ≤ n) (hn : 0 < n) (hn6 : n < 6) (M : Mm) (hC : CI M n) (hP : putP kd a b z) {Φ : Pz} (hΦ : ∀ M', CI M' (n + 1) → (∀ j, 0 ≤ j → j < 5 → M' 39 j = 0) → FrA (insM M 9 p kd a (putB kd b) (putZ kd z)) M' → Φ (some (vI ((n + 1 : Nat) : Int))) M') : Ev mX8_put 61 [some (vR 0), some (vI (p : Int)), some (vI kd), some (vI a), some (vI b), some (vI z), none, none] [] KK M PP 0 0 (Rz mX8_put Φ) := by
  have hs := hC.sz
  have hk : inR kd := by have := hP.1; omega
  have hJ := hC.j.ins (by omega) hp (put_st hP) (by have := hP.2.2; unfold putB putZ; constructor <;> split <;> omega)
  have h9 : ∀ j, 0 ≤ j → j < 6 → inR (M (9 + 1) j) := fun j q1 q2 => by have := (hC.b9 j q1 q2).1; omega
  have h9' : ∀ j, 0 ≤ j → j < 6 → -1000 ≤ M (9 + 2) j ∧ M (9 + 2) j ≤ 1000 := fun j q1 q2 => (hC.b9 j q1 q2).2.1
  have fin : Ev mX8_put 91 [some (vR 0), some (vI (p : Int)), some (vI kd), some (vI a), some (vI b), some (vI z), some (vI (putB kd b)), some (vI (putZ kd z))] [] KK M PP 0 0 (Rz mX8_put Φ) := by
    have hi := c_insert isSt9 (p := (p : Int)) (kd := kd) (a := a) (b := putB kd b) (z := putZ kd z) M (by omega) (by omega) (by omega) (by omega) h9 h9'
    first | refine ev_aload_n dX8_put_91 rfl ?_ | refine ev_aloadX_n dX8_put_91 rfl ?_
    refine ev_getR dX8_put_92 fX8_26 rfl (by first | rfl | assumption) (by first | rfl | assumption) ?_
    refine ev_iload_n dX8_put_95 rfl ?_
    refine ev_iload_n dX8_put_96 rfl ?_
    refine ev_iload_n dX8_put_97 rfl ?_
    refine ev_iload dX8_put_98 rfl ?_
    refine ev_iload dX8_put_100 rfl ?_
    refine ev_callv (ci := 7) hi dX8_put_102 tX7_insert.1 kX8_203 tX7_insert.2.1 tX7_insert.2.2.1 rfl (by first | rfl | assumption) tX7_insert.2.2.2 ⟨⟨Nat.le_of_ble_eq_true rfl, Nat.le_of_ble_eq_true rfl⟩, Nat.le_of_ble_eq_true rfl, Nat.le_of_ble_eq_true rfl⟩ rfl (Nat.le_of_ble_eq_true rfl) ?_
    rintro r K' M' P' ⟨rfl, rfl, rfl, hM'⟩
    rw [hM']
    clear hM' M'
    exact put_tail (p := p) hJ hΦ
  have e1 : (kd = 0 ∨ kd = 1) → putB kd b = b := fun q => by unfold putB; rw [if_pos (by omega)]
  have e2 : ¬ (kd = 0 ∨ kd = 1) → putB kd b = -1 := fun q => by have := hP.1; unfold putB; rw [if_neg (by omega)]
  have e3 : (kd = 0 ∨ kd = 1 ∨ kd = 3) → putZ kd z = z := fun q => by unfold putZ; rw [if_neg (by omega)]
  have e4 : ¬ (kd = 0 ∨ kd = 1 ∨ kd = 3) → putZ kd z = 0 := fun q => by have := hP.1; unfold putZ; rw [if_pos (by omega)]
  clear hJ h9 h9' hC
  refine ev_iload_n dX8_put_61 rfl ?_
  refine ev_calls (c_hasSecond hk M) dX8_put_62 tX8_hasSecond.1 kX8_200 tX8_hasSecond.2.1 tX8_hasSecond.2.2 ⟨⟨Nat.le_of_ble_eq_true rfl, Nat.le_of_ble_eq_true rfl⟩, Nat.le_of_ble_eq_true rfl, Nat.le_of_ble_eq_true rfl⟩ rfl (Nat.le_of_ble_eq_true rfl) ?_
  rintro r K' M' P' ⟨rfl, rfl, ⟨v62, rfl, hw62, hv62⟩, hM'⟩
  rw [hM']
  clear hM' M'
  refine ev_if_eq (tgt := 73) dX8_put_65 (by decide) (by omega) (fun hb65 => ?_) (fun hb65 => ?_)
  · have g62 := (not_congr hv62).mp (by omega)
    refine ev_iconst dX8_put_73 ?_
    refine ev_istore dX8_put_74 (by decide) ?_
    refine ev_iload_n dX8_put_76 rfl ?_
    refine ev_calls (c_hasNumber hk M) dX8_put_77 tX8_hasNumber.1 kX8_120 tX8_hasNumber.2.1 tX8_hasNumber.2.2 ⟨⟨Nat.le_of_ble_eq_true rfl, Nat.le_of_ble_eq_true rfl⟩, Nat.le_of_ble_eq_true rfl, Nat.le_of_ble_eq_true rfl⟩ rfl (Nat.le_of_ble_eq_true rfl) ?_
    rintro r K' M' P' ⟨rfl, rfl, ⟨v77, rfl, hw77, hv77⟩, hM'⟩
    rw [hM']
    clear hM' M'
    refine ev_if_eq (tgt := 88) dX8_put_80 (by decide) (by omega) (fun hb80 => ?_) (fun hb80 => ?_)
    · have g77 := (not_congr hv77).mp (by omega)
      refine ev_iconst dX8_put_88 ?_
      refine ev_istore dX8_put_89 (by decide) ?_
      first | rw [e1 g62] at fin | rw [e2 g62] at fin
      first | rw [e3 g77] at fin | rw [e4 g77] at fin
      exact ev_to fin (by repeat (first | exact trivial | refine ⟨rfl, ?_⟩)) rfl rfl rfl rfl
    · have g77 := hv77.mp (by omega)
      refine ev_iload dX8_put_83 rfl ?_
      refine ev_goto (tgt := 89) dX8_put_85 (by decide) ?_
      refine ev_istore dX8_put_89 (by decide) ?_
      first | rw [e1 g62] at fin | rw [e2 g62] at fin
      first | rw [e3 g77] at fin | rw [e4 g77] at fin
      exact ev_to fin (by repeat (first | exact trivial | refine ⟨rfl, ?_⟩)) rfl rfl rfl rfl
  · have g62 := hv62.mp (by omega)
    refine ev_iload dX8_put_68 rfl ?_
    refine ev_goto (tgt := 74) dX8_put_70 (by decide) ?_
    refine ev_istore dX8_put_74 (by decide) ?_
    refine ev_iload_n dX8_put_76 rfl ?_
    refine ev_calls (c_hasNumber hk M) dX8_put_77 tX8_hasNumber.1 kX8_120 tX8_hasNumber.2.1 tX8_hasNumber.2.2 ⟨⟨Nat.le_of_ble_eq_true rfl, Nat.le_of_ble_eq_true rfl⟩, Nat.le_of_ble_eq_true rfl, Nat.le_of_ble_eq_true rfl⟩ rfl (Nat.le_of_ble_eq_true rfl) ?_
    rintro r K' M' P' ⟨rfl, rfl, ⟨v77, rfl, hw77, hv77⟩, hM'⟩
    rw [hM']
    clear hM' M'
    refine ev_if_eq (tgt := 88) dX8_put_80 (by decide) (by omega) (fun hb80 => ?_) (fun hb80 => ?_)
    · have g77 := (not_congr hv77).mp (by omega)
      refine ev_iconst dX8_put_88 ?_
      refine ev_istore dX8_put_89 (by decide) ?_
      first | rw [e1 g62] at fin | rw [e2 g62] at fin
      first | rw [e3 g77] at fin | rw [e4 g77] at fin
      exact ev_to fin (by repeat (first | exact trivial | refine ⟨rfl, ?_⟩)) rfl rfl rfl rfl
    · have g77 := hv77.mp (by omega)
      refine ev_iload dX8_put_83 rfl ?_
      refine ev_goto (tgt := 89) dX8_put_85 (by decide) ?_
      refine ev_istore dX8_put_89 (by decide) ?_
      first | rw [e1 g62] at fin | rw [e2 g62] at fin
      first | rw [e3 g77] at fin | rw [e4 g77] at fin
      exact ev_to fin (by repeat (first | exact trivial | refine ⟨rfl, ?_⟩)) rfl rfl rfl rfl
theorem c_put {n : Nat} {x kd a b z : Int} (hx : inR x) (h1 : inR kd) (h2 : inR a) (h3 : inR b) (h4 : inR z) (M : Mm) (hC : CI M n) : Cm mX8_put [vR 0, vI x, vI kd, vI a, vI b, vI z] M (fun r M' => ((x < 0 ∨ n < x) ∧ r = some (vI (-101)) ∧ M' = M) ∨ ((0 ≤ x ∧ x ≤ n) ∧ ¬ putP kd a b z ∧ r = some (vI (-102)) ∧ M' = M) ∨ ((0 ≤ x ∧ x ≤ n) ∧ putP kd a b z ∧ n = 0 ∧ r = some (vI (-103)) ∧ M' = M) ∨ ((0 ≤ x ∧ x ≤ n) ∧ putP kd a b z ∧ n = 6 ∧ r = some (vI (-104)) ∧ M' = M) ∨ ∃ p : Nat, x = p ∧ p ≤ n ∧ 0 < n ∧ n < 6 ∧ putP kd a b z ∧ r = some (vI ((n + 1 : Nat) : Int)) ∧ CI M' (n + 1) ∧ (∀ j, 0 ≤ j → j < 5 → M' 39 j = 0) ∧ FrA (insM M 9 p kd a (putB kd b) (putZ kd z)) M') := by
  have hs := hC.sz
  have h6 := hC.n6
  refine cm_of (by decide +kernel) (fun _ => trivial) (Nat.le_of_ble_eq_true rfl) ?_
  refine ev_iload_n dX8_put_0 rfl ?_
  refine ev_if_lt (tgt := 15) dX8_put_1 (by decide) (by omega) (fun hb1 => ?_) (fun hb1 => ?_)
  · refine ev_bipush dX8_put_15 ?_
    exact ev_ireturn dX8_put_17 ⟨_, rfl, rfl⟩ (rz (Or.inl ⟨by omega, rfl, rfl⟩))
  · refine ev_iload_n dX8_put_4 rfl ?_
    first | refine ev_aload_n dX8_put_5 rfl ?_ | refine ev_aloadX_n dX8_put_5 rfl ?_
    refine ev_getR dX8_put_6 fX8_26 rfl (by first | rfl | assumption) (by first | rfl | assumption) ?_
    refine ev_gI 4 dX8_put_9 fX8_105 rfl (by first | rfl | assumption) rfl ?_
    refine ev_icmp_le (tgt := 18) dX8_put_12 (by decide) (by omega) (by omega) (fun hb12 => ?_) (fun hb12 => ?_)
    · refine ev_iload_n dX8_put_18 rfl ?_
      refine ev_iload_n dX8_put_19 rfl ?_
      refine ev_iload dX8_put_20 rfl ?_
      refine ev_iload dX8_put_22 rfl ?_
      refine ev_calls (c_canBePut h1 h2 h3 h4 M) dX8_put_24 tX8_canBePut.1 kX8_196 tX8_canBePut.2.1 tX8_canBePut.2.2 ⟨⟨Nat.le_of_ble_eq_true rfl, Nat.le_of_ble_eq_true rfl⟩, Nat.le_of_ble_eq_true rfl, Nat.le_of_ble_eq_true rfl⟩ rfl (Nat.le_of_ble_eq_true rfl) ?_
      rintro r K' M' P' ⟨rfl, rfl, ⟨v24, rfl, hw24, hv24⟩, hM'⟩
      rw [hM']
      clear hM' M'
      refine ev_if_ne (tgt := 33) dX8_put_27 (by decide) (by omega) (fun hb27 => ?_) (fun hb27 => ?_)
      · have g24 := hv24.mp (by omega)
        first | refine ev_aload_n dX8_put_33 rfl ?_ | refine ev_aloadX_n dX8_put_33 rfl ?_
        refine ev_getR dX8_put_34 fX8_26 rfl (by first | rfl | assumption) (by first | rfl | assumption) ?_
        refine ev_gI 4 dX8_put_37 fX8_105 rfl (by first | rfl | assumption) rfl ?_
        refine ev_if_ne (tgt := 46) dX8_put_40 (by decide) (by omega) (fun hb40 => ?_) (fun hb40 => ?_)
        · first | refine ev_aload_n dX8_put_46 rfl ?_ | refine ev_aloadX_n dX8_put_46 rfl ?_
          refine ev_getR dX8_put_47 fX8_26 rfl (by first | rfl | assumption) (by first | rfl | assumption) ?_
          refine ev_gI 4 dX8_put_50 fX8_105 rfl (by first | rfl | assumption) rfl ?_
          refine ev_bipush dX8_put_53 ?_
          refine ev_icmp_lt (tgt := 61) dX8_put_55 (by decide) (by omega) (by omega) (fun hb55 => ?_) (fun hb55 => ?_)
          · obtain ⟨p, rfl⟩ := Int.eq_ofNat_of_zero_le (show 0 ≤ x by omega)
            refine ev_to (put_mid (p := p) (n := n) (by omega) (by omega) (by omega) M hC g24 (fun M' q1 q2 q3 => Or.inr (Or.inr (Or.inr (Or.inr ⟨p, rfl, by omega, by omega, by omega, g24, rfl, q1, q2, q3⟩))))) (by repeat (first | exact trivial | refine ⟨rfl, ?_⟩)) rfl rfl rfl rfl
          · refine ev_bipush dX8_put_58 ?_
            exact ev_ireturn dX8_put_60 ⟨_, rfl, rfl⟩ (rz (Or.inr (Or.inr (Or.inr (Or.inl ⟨by omega, g24, by omega, rfl, rfl⟩)))))
        · refine ev_bipush dX8_put_43 ?_
          exact ev_ireturn dX8_put_45 ⟨_, rfl, rfl⟩ (rz (Or.inr (Or.inr (Or.inl ⟨by omega, g24, by omega, rfl, rfl⟩))))
      · have g24 := (not_congr hv24).mp (by omega)
        refine ev_bipush dX8_put_30 ?_
        exact ev_ireturn dX8_put_32 ⟨_, rfl, rfl⟩ (rz (Or.inr (Or.inl ⟨by omega, g24, rfl, rfl⟩)))
    · refine ev_bipush dX8_put_15 ?_
      exact ev_ireturn dX8_put_17 ⟨_, rfl, rfl⟩ (rz (Or.inl ⟨by omega, rfl, rfl⟩))
theorem c_take {n : Nat} {x : Int} (hx : inR x) (M : Mm) (hC : CI M n) : Cm mX8_take [vR 0, vI x] M (fun r M' => ((x < 0 ∨ n ≤ x) ∧ r = some (vI (-101)) ∧ M' = M) ∨ ((0 ≤ x ∧ x < n) ∧ (n = 1 ∨ (x + 1 < n ∧ M 10 (x + 1) = 4 ∧ M 11 (x + 1) = x)) ∧ r = some (vI (-103)) ∧ M' = M) ∨ ∃ p m : Nat, x = p ∧ n = m + 1 ∧ p ≤ m ∧ 0 < m ∧ ¬ (x + 1 < n ∧ M 10 (x + 1) = 4 ∧ M 11 (x + 1) = x) ∧ r = some (vI (m : Int)) ∧ CI M' m ∧ (∀ j, 0 ≤ j → j < 5 → M' 39 j = 0) ∧ FrA (remM M 9 p) M') := by
  have hs := hC.sz
  have h6 := hC.n6
  have h9 : ∀ j, 0 ≤ j → j < 6 → inR (M (9 + 1) j) := fun j q1 q2 => by have := (hC.b9 j q1 q2).1; omega
  have h9a : ∀ j, 0 ≤ j → j < 6 → inR (M (9 + 2) j) := fun j q1 q2 => by have := (hC.b9 j q1 q2).2.1; omega
  have h9' : ∀ j, 0 ≤ j → j < 6 → -1000 ≤ M (9 + 2) j ∧ M (9 + 2) j ≤ 1000 := fun j q1 q2 => (hC.b9 j q1 q2).2.1
  refine cm_of (by decide +kernel) (fun _ => trivial) (Nat.le_of_ble_eq_true rfl) ?_
  first | refine ev_aload_n dX8_take_0 rfl ?_ | refine ev_aloadX_n dX8_take_0 rfl ?_
  refine ev_iload_n dX8_take_1 rfl ?_
  refine ev_callv (ci := 8) (c_isStep hx M (by omega)) dX8_take_2 tX8_isStep.1 kX8_106 tX8_isStep.2.1 tX8_isStep.2.2.1 rfl (by first | rfl | assumption) tX8_isStep.2.2.2 ⟨⟨Nat.le_of_ble_eq_true rfl, Nat.le_of_ble_eq_true rfl⟩, Nat.le_of_ble_eq_true rfl, Nat.le_of_ble_eq_true rfl⟩ rfl (Nat.le_of_ble_eq_true rfl) ?_
  rintro r K' M' P' ⟨rfl, rfl, ⟨v2, rfl, hw2, hv2⟩, hM'⟩
  rw [hM']
  clear hM' M'
  refine ev_if_ne (tgt := 11) dX8_take_5 (by decide) (by omega) (fun hb5 => ?_) (fun hb5 => ?_)
  · have g2 := hv2.mp (by omega)
    first | refine ev_aload_n dX8_take_11 rfl ?_ | refine ev_aloadX_n dX8_take_11 rfl ?_
    refine ev_getR dX8_take_12 fX8_26 rfl (by first | rfl | assumption) (by first | rfl | assumption) ?_
    refine ev_gI 4 dX8_take_15 fX8_105 rfl (by first | rfl | assumption) rfl ?_
    refine ev_iconst dX8_take_18 ?_
    refine ev_icmp_eq (tgt := 33) dX8_take_19 (by decide) (by omega) (by omega) (fun hb19 => ?_) (fun hb19 => ?_)
    · refine ev_bipush dX8_take_33 ?_
      exact ev_ireturn dX8_take_35 ⟨_, rfl, rfl⟩ (rz (Or.inr (Or.inl ⟨by omega, by first | exact Or.inl (by omega) | exact Or.inr g27, rfl, rfl⟩)))
    · first | refine ev_aload_n dX8_take_22 rfl ?_ | refine ev_aloadX_n dX8_take_22 rfl ?_
      refine ev_getR dX8_take_23 fX8_26 rfl (by first | rfl | assumption) (by first | rfl | assumption) ?_
      refine ev_iload_n dX8_take_26 rfl ?_
      refine ev_callv (ci := 7) (c_isAll isSt9 M (by omega) g2.1 g2.2 h9 h9a) dX8_take_27 tX7_isAllOfALoop.1 kX8_207 tX7_isAllOfALoop.2.1 tX7_isAllOfALoop.2.2.1 rfl (by first | rfl | assumption) tX7_isAllOfALoop.2.2.2 ⟨⟨Nat.le_of_ble_eq_true rfl, Nat.le_of_ble_eq_true rfl⟩, Nat.le_of_ble_eq_true rfl, Nat.le_of_ble_eq_true rfl⟩ rfl (Nat.le_of_ble_eq_true rfl) ?_
      rintro r K' M' P' ⟨rfl, rfl, ⟨v27, rfl, hw27, hv27⟩, hM'⟩
      rw [hM']
      clear hM' M'
      simp only [Nat.reduceAdd, hs] at hv27
      refine ev_if_eq (tgt := 36) dX8_take_30 (by decide) (by omega) (fun hb30 => ?_) (fun hb30 => ?_)
      · have g27 := (not_congr hv27).mp (by omega)
        obtain ⟨p, rfl⟩ := Int.eq_ofNat_of_zero_le g2.1
        obtain ⟨m, rfl⟩ : ∃ m, n = m + 1 := ⟨n - 1, by omega⟩
        have hJ := hC.j.rem (p := p) (by omega) (by rw [hs]; exact g27)
        first | refine ev_aload_n dX8_take_36 rfl ?_ | refine ev_aloadX_n dX8_take_36 rfl ?_
        refine ev_getR dX8_take_37 fX8_26 rfl (by first | rfl | assumption) (by first | rfl | assumption) ?_
        refine ev_iload_n dX8_take_40 rfl ?_
        refine ev_callv (ci := 7) (c_remove isSt9 M (by omega) g2.1 g2.2 h9 h9') dX8_take_41 tX7_remove.1 kX8_210 tX7_remove.2.1 tX7_remove.2.2.1 rfl (by first | rfl | assumption) tX7_remove.2.2.2 ⟨⟨Nat.le_of_ble_eq_true rfl, Nat.le_of_ble_eq_true rfl⟩, Nat.le_of_ble_eq_true rfl, Nat.le_of_ble_eq_true rfl⟩ rfl (Nat.le_of_ble_eq_true rfl) ?_
        rintro r K' M' P' ⟨rfl, rfl, rfl, hM'⟩
        rw [hM']
        clear hM' M'
        first | refine ev_aload_n dX8_take_44 rfl ?_ | refine ev_aloadX_n dX8_take_44 rfl ?_
        refine ev_callv (ci := 8) (c_runJ (by omega) hJ) dX8_take_45 tX8_runAgain.1 kX8_102 tX8_runAgain.2.1 tX8_runAgain.2.2.1 rfl (by first | rfl | assumption) tX8_runAgain.2.2.2 ⟨⟨Nat.le_of_ble_eq_true rfl, Nat.le_of_ble_eq_true rfl⟩, Nat.le_of_ble_eq_true rfl, Nat.le_of_ble_eq_true rfl⟩ rfl (Nat.le_of_ble_eq_true rfl) ?_
        rintro r K' M' P' ⟨rfl, rfl, rfl, q1, q2, q3⟩
        first | refine ev_aload_n dX8_take_48 rfl ?_ | refine ev_aloadX_n dX8_take_48 rfl ?_
        refine ev_getR dX8_take_49 fX8_26 rfl (by first | rfl | assumption) (by first | rfl | assumption) ?_
        refine ev_gI 4 dX8_take_52 fX8_105 rfl (by first | rfl | assumption) rfl ?_
        rw [q3.sz, hJ.sz]
        exact ev_ireturn dX8_take_55 ⟨_, rfl, rfl⟩ (rz (Or.inr (Or.inr ⟨p, m, rfl, rfl, by omega, by omega, g27, rfl, q1, q2, q3⟩)))
      · have g27 := hv27.mp (by omega)
        refine ev_bipush dX8_take_33 ?_
        exact ev_ireturn dX8_take_35 ⟨_, rfl, rfl⟩ (rz (Or.inr (Or.inl ⟨by omega, by first | exact Or.inl (by omega) | exact Or.inr g27, rfl, rfl⟩)))
  · have g2 := (not_congr hv2).mp (by omega)
    refine ev_bipush dX8_take_8 ?_
    exact ev_ireturn dX8_take_10 ⟨_, rfl, rfl⟩ (rz (Or.inl ⟨by omega, rfl, rfl⟩))
theorem c_by {n : Nat} {x z : Int} (hx : inR x) (hz : inR z) (M : Mm) (hC : CI M n) : Cm mX8_by [vR 0, vI x, vI z] M (fun r M' => ((x < 0 ∨ n ≤ x) ∧ r = some (vI (-101)) ∧ M' = M) ∨ ((0 ≤ x ∧ x < n) ∧ ¬ (-9 ≤ z ∧ z ≤ 9) ∧ r = some (vI (-102)) ∧ M' = M) ∨ ((0 ≤ x ∧ x < n) ∧ (-9 ≤ z ∧ z ≤ 9) ∧ ¬ (M 10 x = 0 ∨ M 10 x = 1 ∨ M 10 x = 3) ∧ r = some (vI (-103)) ∧ M' = M) ∨ ∃ p : Nat, x = p ∧ p < n ∧ (-9 ≤ z ∧ z ≤ 9) ∧ (M 10 x = 0 ∨ M 10 x = 1 ∨ M 10 x = 3) ∧ ∃ M1, r = some (vI (cntF M1 (aC n))) ∧ CI M1 n ∧ (∀ j, 0 ≤ j → j < 5 → M1 39 j = 0) ∧ FrA (upM M 13 x z) M1 ∧ Pc M1 M' n) := by
  have hs := hC.sz
  have h6 := hC.n6
  refine cm_of (by decide +kernel) (fun _ => trivial) (Nat.le_of_ble_eq_true rfl) ?_
  first | refine ev_aload_n dX8_by_0 rfl ?_ | refine ev_aloadX_n dX8_by_0 rfl ?_
  refine ev_iload_n dX8_by_1 rfl ?_
  refine ev_callv (ci := 8) (c_isStep hx M (by omega)) dX8_by_2 tX8_isStep.1 kX8_106 tX8_isStep.2.1 tX8_isStep.2.2.1 rfl (by first | rfl | assumption) tX8_isStep.2.2.2 ⟨⟨Nat.le_of_ble_eq_true rfl, Nat.le_of_ble_eq_true rfl⟩, Nat.le_of_ble_eq_true rfl, Nat.le_of_ble_eq_true rfl⟩ rfl (Nat.le_of_ble_eq_true rfl) ?_
  rintro r K' M' P' ⟨rfl, rfl, ⟨v2, rfl, hw2, hv2⟩, hM'⟩
  rw [hM']
  clear hM' M'
  refine ev_if_ne (tgt := 11) dX8_by_5 (by decide) (by omega) (fun hb5 => ?_) (fun hb5 => ?_)
  · have g2 := hv2.mp (by omega)
    refine ev_iload_n dX8_by_11 rfl ?_
    refine ev_calls (c_isBy hz M) dX8_by_12 tX8_isBy.1 kX8_213 tX8_isBy.2.1 tX8_isBy.2.2 ⟨⟨Nat.le_of_ble_eq_true rfl, Nat.le_of_ble_eq_true rfl⟩, Nat.le_of_ble_eq_true rfl, Nat.le_of_ble_eq_true rfl⟩ rfl (Nat.le_of_ble_eq_true rfl) ?_
    rintro r K' M' P' ⟨rfl, rfl, ⟨v12, rfl, hw12, hv12⟩, hM'⟩
    rw [hM']
    clear hM' M'
    refine ev_if_ne (tgt := 21) dX8_by_15 (by decide) (by omega) (fun hb15 => ?_) (fun hb15 => ?_)
    · have g12 := hv12.mp (by omega)
      have hb := hC.b9 x (by omega) (by omega)
      simp only [Nat.reduceAdd] at hb
      first | refine ev_aload_n dX8_by_21 rfl ?_ | refine ev_aloadX_n dX8_by_21 rfl ?_
      refine ev_getR dX8_by_22 fX8_26 rfl (by first | rfl | assumption) (by first | rfl | assumption) ?_
      refine ev_getR dX8_by_25 fX8_110 rfl (by first | rfl | assumption) (by first | rfl | assumption) ?_
      refine ev_iload_n dX8_by_28 rfl ?_
      refine ev_iaload dX8_by_29 (by first | rfl | assumption) (by omega) (by omega) (by decide) ?_
      refine ev_calls (c_hasNumber (by omega) M) dX8_by_30 tX8_hasNumber.1 kX8_120 tX8_hasNumber.2.1 tX8_hasNumber.2.2 ⟨⟨Nat.le_of_ble_eq_true rfl, Nat.le_of_ble_eq_true rfl⟩, Nat.le_of_ble_eq_true rfl, Nat.le_of_ble_eq_true rfl⟩ rfl (Nat.le_of_ble_eq_true rfl) ?_
      rintro r K' M' P' ⟨rfl, rfl, ⟨v30, rfl, hw30, hv30⟩, hM'⟩
      rw [hM']
      clear hM' M'
      refine ev_if_ne (tgt := 39) dX8_by_33 (by decide) (by omega) (fun hb33 => ?_) (fun hb33 => ?_)
      · have g30 := hv30.mp (by omega)
        obtain ⟨p, rfl⟩ := Int.eq_ofNat_of_zero_le g2.1
        have hJ := hC.j.by (p := p) g12
        first | refine ev_aload_n dX8_by_39 rfl ?_ | refine ev_aloadX_n dX8_by_39 rfl ?_
        refine ev_getR dX8_by_40 fX8_26 rfl (by first | rfl | assumption) (by first | rfl | assumption) ?_
        refine ev_getR dX8_by_43 fX8_123 rfl (by first | rfl | assumption) (by first | rfl | assumption) ?_
        refine ev_iload_n dX8_by_46 rfl ?_
        refine ev_iload_n dX8_by_47 rfl ?_
        refine ev_iastore dX8_by_48 (by first | rfl | assumption) (by omega) (by omega) (by decide) ?_
        first | refine ev_aload_n dX8_by_49 rfl ?_ | refine ev_aloadX_n dX8_by_49 rfl ?_
        refine ev_callv (ci := 8) (c_runJ (by omega) hJ) dX8_by_50 tX8_runAgain.1 kX8_102 tX8_runAgain.2.1 tX8_runAgain.2.2.1 rfl (by first | rfl | assumption) tX8_runAgain.2.2.2 ⟨⟨Nat.le_of_ble_eq_true rfl, Nat.le_of_ble_eq_true rfl⟩, Nat.le_of_ble_eq_true rfl, Nat.le_of_ble_eq_true rfl⟩ rfl (Nat.le_of_ble_eq_true rfl) ?_
        rintro r K' M1 P' ⟨rfl, rfl, rfl, q1, q2, q3⟩
        first | refine ev_aload_n dX8_by_53 rfl ?_ | refine ev_aloadX_n dX8_by_53 rfl ?_
        refine ev_getR dX8_by_54 fX8_33 rfl (by first | rfl | assumption) (by first | rfl | assumption) ?_
        first | refine ev_aload_n dX8_by_57 rfl ?_ | refine ev_aloadX_n dX8_by_57 rfl ?_
        refine ev_getR dX8_by_58 fX8_26 rfl (by first | rfl | assumption) (by first | rfl | assumption) ?_
        refine ev_gI 4 dX8_by_61 fX8_105 rfl (by first | rfl | assumption) rfl ?_
        rw [q3.sz, hJ.sz]
        refine ev_callv (ci := 4) (c_ptsA (by omega) (Nat.le_refl n) M1 q1) dX8_by_64 tX4_pointsAhead.1 kX8_170 tX4_pointsAhead.2.1 tX4_pointsAhead.2.2.1 rfl (by first | rfl | assumption) tX4_pointsAhead.2.2.2 ⟨⟨Nat.le_of_ble_eq_true rfl, Nat.le_of_ble_eq_true rfl⟩, Nat.le_of_ble_eq_true rfl, Nat.le_of_ble_eq_true rfl⟩ rfl (Nat.le_of_ble_eq_true rfl) ?_
        rintro r K' M' P' ⟨rfl, rfl, rfl, hM'⟩
        rw [hM']
        clear hM' M'
        exact ev_ireturn dX8_by_67 ⟨_, rfl, rfl⟩ (rz (Or.inr (Or.inr (Or.inr ⟨p, rfl, by omega, g12, g30, M1, rfl, q1, q2, q3, Pc.pt q1⟩))))
      · have g30 := (not_congr hv30).mp (by omega)
        refine ev_bipush dX8_by_36 ?_
        exact ev_ireturn dX8_by_38 ⟨_, rfl, rfl⟩ (rz (Or.inr (Or.inr (Or.inl ⟨by omega, g12, g30, rfl, rfl⟩))))
    · have g12 := (not_congr hv12).mp (by omega)
      refine ev_bipush dX8_by_18 ?_
      exact ev_ireturn dX8_by_20 ⟨_, rfl, rfl⟩ (rz (Or.inr (Or.inl ⟨by omega, g12, rfl, rfl⟩)))
  · have g2 := (not_congr hv2).mp (by omega)
    refine ev_bipush dX8_by_8 ?_
    exact ev_ireturn dX8_by_10 ⟨_, rfl, rfl⟩ (rz (Or.inl ⟨by omega, rfl, rfl⟩))
/-- an image of the steps and of what was seen -/
def imgM (M : Mm) : Mm := upM (rwc (rwc (rwc (rw4 (rwc M 43 (up1 (M 43) 4 (M 9 4))) 43 (cpS 6 (M 10) (M 44)) (cpS 6 (M 11) (M 45)) (cpS 6 (M 12) (M 46)) (cpS 6 (M 13) (M 47))) 48 (up1 (M 48) 2 (M 40 2))) 49 (cpS 6 (M 41) (M 49))) 50 (cpS 6 (M 42) (M 50))) 0 10 1
theorem c_image {n : Nat} (M : Mm) (hC : CI M n) : Cm mX8_image [vR 0] M (fun r M' => (n = 0 ∧ r = some (vI (-103)) ∧ M' = M) ∨ (0 < n ∧ r = some (vI (n : Int)) ∧ M' = imgM M)) := by
  have hs := hC.sz
  have h6 := hC.n6
  have hb : M 0 10 = 0 ∨ M 0 10 = 1 := hC.im0
  refine cm_of (by decide +kernel) (fun _ => trivial) (Nat.le_of_ble_eq_true rfl) ?_
  first | refine ev_aload_n dX8_image_0 rfl ?_ | refine ev_aloadX_n dX8_image_0 rfl ?_
  refine ev_getR dX8_image_1 fX8_26 rfl (by first | rfl | assumption) (by first | rfl | assumption) ?_
  refine ev_gI 4 dX8_image_4 fX8_105 rfl (by first | rfl | assumption) rfl ?_
  refine ev_if_ne (tgt := 13) dX8_image_7 (by decide) (by omega) (fun hb7 => ?_) (fun hb7 => ?_)
  · first | refine ev_aload_n dX8_image_13 rfl ?_ | refine ev_aloadX_n dX8_image_13 rfl ?_
    refine ev_getR dX8_image_14 fX8_51 rfl (by first | rfl | assumption) (by first | rfl | assumption) ?_
    first | refine ev_aload_n dX8_image_17 rfl ?_ | refine ev_aloadX_n dX8_image_17 rfl ?_
    refine ev_getR dX8_image_18 fX8_26 rfl (by first | rfl | assumption) (by first | rfl | assumption) ?_
    refine ev_callv (ci := 7) (c_stCopy isSt43 isSt9 (by omega) M) dX8_image_21 tX7_copy.1 kX8_97 tX7_copy.2.1 tX7_copy.2.2.1 rfl (by first | rfl | assumption) tX7_copy.2.2.2 ⟨⟨Nat.le_of_ble_eq_true rfl, Nat.le_of_ble_eq_true rfl⟩, Nat.le_of_ble_eq_true rfl, Nat.le_of_ble_eq_true rfl⟩ rfl (Nat.le_of_ble_eq_true rfl) ?_
    rintro r K' M' P' ⟨rfl, rfl, rfl, hM'⟩
    rw [hM']
    clear hM' M'
    first | refine ev_aload_n dX8_image_24 rfl ?_ | refine ev_aloadX_n dX8_image_24 rfl ?_
    refine ev_getR dX8_image_25 fX8_54 rfl (by first | rfl | assumption) (by first | rfl | assumption) ?_
    first | refine ev_aload_n dX8_image_28 rfl ?_ | refine ev_aloadX_n dX8_image_28 rfl ?_
    refine ev_getR dX8_image_29 fX8_47 rfl (by first | rfl | assumption) (by first | rfl | assumption) ?_
    refine ev_callv (ci := 5) (c_seCopy isSe48 isSe40 (by omega) _) dX8_image_32 tX5_copy.1 kX8_238 tX5_copy.2.1 tX5_copy.2.2.1 rfl (by first | rfl | assumption) tX5_copy.2.2.2 ⟨⟨Nat.le_of_ble_eq_true rfl, Nat.le_of_ble_eq_true rfl⟩, Nat.le_of_ble_eq_true rfl, Nat.le_of_ble_eq_true rfl⟩ rfl (Nat.le_of_ble_eq_true rfl) ?_
    rintro r K' M' P' ⟨rfl, rfl, rfl, hM'⟩
    rw [hM']
    clear hM' M'
    have f48 : ∀ q, 47 < q ∨ q < 43 → (rw4 (rwc M 43 (up1 (M 43) 4 (M 9 4))) 43 (cpS 6 (M (9 + 1)) (M (43 + 1))) (cpS 6 (M (9 + 2)) (M (43 + 2))) (cpS 6 (M (9 + 3)) (M (43 + 3))) (cpS 6 (M (9 + 4)) (M (43 + 4)))) q = M q := fun q hq => by rw [rw4_o (by omega), rwc_ne (by omega)]
    rw [f48 48 (by decide), f48 40 (by decide), f48 (40 + 1) (by decide), f48 (48 + 1) (by decide), f48 (40 + 2) (by decide), f48 (48 + 2) (by decide)]
    first | refine ev_aload_n dX8_image_35 rfl ?_ | refine ev_aloadX_n dX8_image_35 rfl ?_
    refine ev_iconst dX8_image_36 ?_
    refine ev_pZ 10 dX8_image_37 sX8_71 rfl (by first | exact Or.inl rfl | exact Or.inr rfl | assumption) (by first | rfl | assumption) rfl ?_
    first | refine ev_aload_n dX8_image_40 rfl ?_ | refine ev_aloadX_n dX8_image_40 rfl ?_
    refine ev_getR dX8_image_41 fX8_26 rfl (by first | rfl | assumption) (by first | rfl | assumption) ?_
    refine ev_gI 4 dX8_image_44 fX8_105 rfl (by first | rfl | assumption) rfl ?_
    have e9 : ∀ X : Mm, X 9 = M 9 → upM X 0 10 1 9 4 = n := fun X hX => by rw [upM_n (Or.inl (by decide)), hX]; exact hs
    rw [e9 _ (by rw [rwc_ne (by decide), rwc_ne (by decide), rwc_ne (by decide), f48 9 (by decide)])]
    exact ev_ireturn dX8_image_47 ⟨_, rfl, rfl⟩ (rz (Or.inr ⟨by omega, rfl, rfl⟩))
  · refine ev_bipush dX8_image_10 ?_
    exact ev_ireturn dX8_image_12 ⟨_, rfl, rfl⟩ (rz (Or.inl ⟨by omega, rfl, rfl⟩))
def rstM (M : Mm) : Mm := rwc (rwc (rwc (rw4 (rwc M 9 (up1 (M 9) 4 (M 43 4))) 9 (cpS 6 (M 44) (M 10)) (cpS 6 (M 45) (M 11)) (cpS 6 (M 46) (M 12)) (cpS 6 (M 47) (M 13))) 40 (up1 (M 40) 2 (M 48 2))) 41 (cpS 6 (M 49) (M 41))) 42 (cpS 6 (M 50) (M 42))
theorem cp6 {f g : Int → Int} {j : Int} (h : 0 ≤ j) (h2 : j < 6) : cpS 6 f g j = f j := by
  unfold cpS
  rw [if_pos (by omega)]
theorem prOK_cg {kf af bf zf kf' af' bf' zf' : Int → Int} {n : Nat} (h : prOK kf af bf zf n) (e : ∀ j : Nat, j < n → kf' j = kf j ∧ af' j = af j ∧ bf' j = bf j ∧ zf' j = zf j) : prOK kf' af' bf' zf' n := by
  intro i hi
  rcases h i hi with h1 | ⟨h1, t, h2, h3, h4⟩
  · left
    obtain ⟨e1, e2, e3, e4⟩ := e i hi
    rw [e1, e2, e3, e4]; exact h1
  · right
    refine ⟨by rw [(e i hi).1]; exact h1, t, h2, by rw [(e i hi).2.1]; exact h3, fun j h5 h6 => ?_⟩
    obtain ⟨e1, e2, e3, e4⟩ := e j (by omega)
    rw [e1, e2, e3, e4]; exact h4 j h5 h6
theorem rstM_at {M : Mm} : rstM M 9 4 = M 43 4 ∧ rstM M 10 = cpS 6 (M 44) (M 10) ∧ rstM M 11 = cpS 6 (M 45) (M 11) ∧ rstM M 12 = cpS 6 (M 46) (M 12) ∧ rstM M 13 = cpS 6 (M 47) (M 13) ∧ rstM M 40 2 = M 48 2 ∧ rstM M 41 = cpS 6 (M 49) (M 41) ∧ rstM M 42 = cpS 6 (M 50) (M 42) := by
  unfold rstM
  have o : ∀ (X : Mm) (f g h : Int → Int) (q : Nat), q < 40 → rwc (rwc (rwc X 40 f) 41 g) 42 h q = X q := fun X f g h q hq => by rw [rwc_ne (by omega), rwc_ne (by omega), rwc_ne (by omega)]
  refine ⟨?_, ?_, ?_, ?_, ?_, ?_, ?_, ?_⟩
  · rw [o _ _ _ _ 9 (by decide), rw4_o (by omega), rwc_at, up1_s]
  · rw [o _ _ _ _ 10 (by decide)]; exact rw4_1 _ 9 _ _ _ _
  · rw [o _ _ _ _ 11 (by decide)]; exact rw4_2 _ 9 _ _ _ _
  · rw [o _ _ _ _ 12 (by decide)]; exact rw4_3 _ 9 _ _ _ _
  · rw [o _ _ _ _ 13 (by decide)]; exact rw4_4 _ 9 _ _ _ _
  · rw [rwc_ne (by decide), rwc_ne (by decide), rwc_at, up1_s]
  · rw [rwc_ne (by decide), rwc_at]
  · rw [rwc_at]
theorem rstM_o {M : Mm} {q : Nat} (h : q < 9 ∨ (13 < q ∧ q < 40) ∨ 42 < q) : rstM M q = M q := by
  unfold rstM
  rw [rwc_ne (by omega), rwc_ne (by omega), rwc_ne (by omega), rw4_o (by omega), rwc_ne (by omega)]
theorem CJ.rst {M : Mm} {n m : Nat} (hJ : CJ M n) (hm : M 43 4 = m) (hm6 : m ≤ 6) (ho : prOK (M 44) (M 45) (M 46) (M 47) m) (hs0 : 0 ≤ M 48 2) (hs1 : M 48 2 ≤ 6) : CJ (rstM M) m := by
  have f : ∀ q, q < 9 ∨ (13 < q ∧ q < 40) ∨ 42 < q → rstM M q = M q := fun q h => rstM_o h
  obtain ⟨a1, a2, a3, a4, a5, a6, a7, a8⟩ := rstM_at (M := M)
  apply CJ.mk
  case sz => rw [a1]; exact hm
  case n6 => exact hm6
  case ok =>
    rw [a2, a3, a4, a5]
    exact prOK_cg ho (fun j hj => ⟨cp6 (by omega) (by omega), cp6 (by omega) (by omega), cp6 (by omega) (by omega), cp6 (by omega) (by omega)⟩)
  case b9 =>
    intro j h1 h2
    have := hJ.b43 j h1 h2
    simp only [Nat.reduceAdd] at this ⊢
    rw [a2, a3, a4, a5, cp6 h1 h2, cp6 h1 h2, cp6 h1 h2, cp6 h1 h2]
    exact this
  case b4 => intro j; rw [f _ (by decide), f _ (by decide), f _ (by decide), f _ (by decide)]; exact hJ.b4 j
  case b43 => intro j; rw [f _ (by decide), f _ (by decide), f _ (by decide), f _ (by decide)]; exact hJ.b43 j
  case pg0 => rw [f 1 (by decide)]; exact hJ.pg0
  case pg1 => rw [f 1 (by decide)]; exact hJ.pg1
  case pgl => intro j; rw [f 1 (by decide), f 2 (by decide)]; exact hJ.pgl j
  case rd3 => rw [f 3 (by decide)]; exact hJ.rd3
  case rkb => intro j; rw [f 38 (by decide)]; exact hJ.rkb j
  case sn0 => rw [a6]; exact hs0
  case sn1 => rw [a6]; exact hs1
  case snb =>
    intro j h1 h2
    rw [a7, f 49 (by decide), cp6 h1 h2]
    exact ⟨(hJ.snb j h1 h2).2, (hJ.snb j h1 h2).2⟩
  case snr =>
    intro j h1 h2
    rw [a8, f 50 (by decide), cp6 h1 h2]
    exact ⟨(hJ.snr j h1 h2).2, (hJ.snr j h1 h2).2⟩
  case im0 => rw [f 0 (by decide)]; exact hJ.im0
  case im1 => rw [f 0 (by decide), f 43 (by decide), f 44 (by decide), f 45 (by decide), f 46 (by decide), f 47 (by decide), f 48 (by decide)]; exact hJ.im1
  case rdg => rw [f 0 (by decide)]; exact hJ.rdg
  case sc => rw [f 52 (by decide)]; exact hJ.sc
theorem c_restore {n : Nat} (M : Mm) (hC : CI M n) : Cm mX8_restore [vR 0] M (fun r M' => (M 0 10 = 0 ∧ r = some (vI (-103)) ∧ M' = M) ∨ (M 0 10 = 1 ∧ ∃ m : Nat, M 43 4 = m ∧ 0 < m ∧ r = some (vI (m : Int)) ∧ CI M' m ∧ (∀ j, 0 ≤ j → j < 5 → M' 39 j = 0) ∧ FrA (rstM M) M')) := by
  have hs := hC.sz
  have h6 := hC.n6
  have hb : M 0 10 = 0 ∨ M 0 10 = 1 := hC.im0
  refine cm_of (by decide +kernel) (fun _ => trivial) (Nat.le_of_ble_eq_true rfl) ?_
  first | refine ev_aload_n dX8_restore_0 rfl ?_ | refine ev_aloadX_n dX8_restore_0 rfl ?_
  refine ev_gI 10 dX8_restore_1 fX8_71 rfl (by first | rfl | assumption) rfl ?_
  refine ev_if_ne (tgt := 10) dX8_restore_4 (by decide) (by omega) (fun hb4 => ?_) (fun hb4 => ?_)
  · obtain ⟨m, m1, m2, m3, m4, m5, m6⟩ := hC.im1 (by omega)
    first | refine ev_aload_n dX8_restore_10 rfl ?_ | refine ev_aloadX_n dX8_restore_10 rfl ?_
    refine ev_getR dX8_restore_11 fX8_26 rfl (by first | rfl | assumption) (by first | rfl | assumption) ?_
    first | refine ev_aload_n dX8_restore_14 rfl ?_ | refine ev_aloadX_n dX8_restore_14 rfl ?_
    refine ev_getR dX8_restore_15 fX8_51 rfl (by first | rfl | assumption) (by first | rfl | assumption) ?_
    refine ev_callv (ci := 7) (c_stCopy isSt9 isSt43 (by omega) M) dX8_restore_18 tX7_copy.1 kX8_97 tX7_copy.2.1 tX7_copy.2.2.1 rfl (by first | rfl | assumption) tX7_copy.2.2.2 ⟨⟨Nat.le_of_ble_eq_true rfl, Nat.le_of_ble_eq_true rfl⟩, Nat.le_of_ble_eq_true rfl, Nat.le_of_ble_eq_true rfl⟩ rfl (Nat.le_of_ble_eq_true rfl) ?_
    rintro r K' M' P' ⟨rfl, rfl, rfl, hM'⟩
    rw [hM']
    clear hM' M'
    first | refine ev_aload_n dX8_restore_21 rfl ?_ | refine ev_aloadX_n dX8_restore_21 rfl ?_
    refine ev_getR dX8_restore_22 fX8_47 rfl (by first | rfl | assumption) (by first | rfl | assumption) ?_
    first | refine ev_aload_n dX8_restore_25 rfl ?_ | refine ev_aloadX_n dX8_restore_25 rfl ?_
    refine ev_getR dX8_restore_26 fX8_54 rfl (by first | rfl | assumption) (by first | rfl | assumption) ?_
    refine ev_callv (ci := 5) (c_seCopy isSe40 isSe48 (by omega) _) dX8_restore_29 tX5_copy.1 kX8_238 tX5_copy.2.1 tX5_copy.2.2.1 rfl (by first | rfl | assumption) tX5_copy.2.2.2 ⟨⟨Nat.le_of_ble_eq_true rfl, Nat.le_of_ble_eq_true rfl⟩, Nat.le_of_ble_eq_true rfl, Nat.le_of_ble_eq_true rfl⟩ rfl (Nat.le_of_ble_eq_true rfl) ?_
    rintro r K' M' P' ⟨rfl, rfl, rfl, hM'⟩
    rw [hM']
    clear hM' M'
    have f9 : ∀ q, 13 < q ∨ q < 9 → (rw4 (rwc M 9 (up1 (M 9) 4 (M 43 4))) 9 (cpS 6 (M (43 + 1)) (M (9 + 1))) (cpS 6 (M (43 + 2)) (M (9 + 2))) (cpS 6 (M (43 + 3)) (M (9 + 3))) (cpS 6 (M (43 + 4)) (M (9 + 4)))) q = M q := fun q hq => by rw [rw4_o (by omega), rwc_ne (by omega)]
    rw [f9 48 (by decide), f9 40 (by decide), f9 (40 + 1) (by decide), f9 (48 + 1) (by decide), f9 (40 + 2) (by decide), f9 (48 + 2) (by decide)]
    have hJ := hC.j.rst m1 m3 m4 m5 m6
    first | refine ev_aload_n dX8_restore_32 rfl ?_ | refine ev_aloadX_n dX8_restore_32 rfl ?_
    refine ev_callv (ci := 8) (c_runJ (by omega) hJ) dX8_restore_33 tX8_runAgain.1 kX8_102 tX8_runAgain.2.1 tX8_runAgain.2.2.1 rfl (by first | rfl | assumption) tX8_runAgain.2.2.2 ⟨⟨Nat.le_of_ble_eq_true rfl, Nat.le_of_ble_eq_true rfl⟩, Nat.le_of_ble_eq_true rfl, Nat.le_of_ble_eq_true rfl⟩ rfl (Nat.le_of_ble_eq_true rfl) ?_
    rintro r K' M' P' ⟨rfl, rfl, rfl, q1, q2, q3⟩
    first | refine ev_aload_n dX8_restore_36 rfl ?_ | refine ev_aloadX_n dX8_restore_36 rfl ?_
    refine ev_getR dX8_restore_37 fX8_26 rfl (by first | rfl | assumption) (by first | rfl | assumption) ?_
    refine ev_gI 4 dX8_restore_40 fX8_105 rfl (by first | rfl | assumption) rfl ?_
    have q4 : M' 9 4 = m := by rw [FrA.sz (M := rstM M) q3]; exact hJ.sz
    rw [q4]
    exact ev_ireturn dX8_restore_43 ⟨_, rfl, rfl⟩ (rz (Or.inr ⟨by omega, m, m1, m2, rfl, q1, q2, q3⟩))
  · refine ev_bipush dX8_restore_7 ?_
    exact ev_ireturn dX8_restore_9 ⟨_, rfl, rfl⟩ (rz (Or.inl ⟨by omega, rfl, rfl⟩))
