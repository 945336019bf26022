/-! ===== SumBounds: share, compare, counts, racks, what is seen ===== -/
theorem c_share {n : Nat} {x : Int} (hx : inR x) (M : Mm) (hC : CI M n) : Cm mX8_share [vR 0, vI x] M (fun r M' => (¬ (0 < n ∧ 0 ≤ x ∧ x ≤ n) ∧ r = some (vL (-101)) ∧ M' = M) ∨ ∃ k : Nat, x = k ∧ 0 < n ∧ k ≤ n ∧ r = some (vL (shB (cntF M (aC k)))) ∧ M' = rwc M 16 (up1 (M 16) k (cntF M (aC k)))) := by
  have hs := hC.sz
  have h6 := hC.n6
  refine cm_of (by decide +kernel) (fun _ => trivial) (Nat.le_of_ble_eq_true rfl) ?_
  first | refine ev_aload_n dX8_share_0 rfl ?_ | refine ev_aloadX_n dX8_share_0 rfl ?_
  refine ev_iload_n dX8_share_1 rfl ?_
  refine ev_callv (ci := 8) (c_hasShape hx M (by omega)) dX8_share_2 tX8_hasShape.1 kX8_153 tX8_hasShape.2.1 tX8_hasShape.2.2.1 rfl (by first | rfl | assumption) tX8_hasShape.2.2.2 ⟨⟨Nat.le_of_ble_eq_true rfl, Nat.le_of_ble_eq_true rfl⟩, Nat.le_of_ble_eq_true rfl, Nat.le_of_ble_eq_true rfl⟩ rfl (Nat.le_of_ble_eq_true rfl) ?_
  rintro r K' M' P' ⟨rfl, rfl, ⟨v2, rfl, hw2, hv2⟩, hM'⟩
  rw [hM']
  clear hM' M'
  refine ev_if_ne (tgt := 12) dX8_share_5 (by decide) (by omega) (fun hb5 => ?_) (fun hb5 => ?_)
  · have g2 := hv2.mp (by omega)
    obtain ⟨k, rfl⟩ := Int.eq_ofNat_of_zero_le g2.2.1
    obtain ⟨A, q, -, -, -, hA⟩ := hC.rn (by omega)
    have hcn := (hA k (by omega)).cnt
    have hcr := crd_rng (A k)
    first | refine ev_aload_n dX8_share_12 rfl ?_ | refine ev_aloadX_n dX8_share_12 rfl ?_
    refine ev_getR dX8_share_13 fX8_33 rfl (by first | rfl | assumption) (by first | rfl | assumption) ?_
    refine ev_iload_n dX8_share_16 rfl ?_
    refine ev_callv (ci := 4) (c_ptsA (n := n) (by omega) (by omega) M hC) dX8_share_17 tX4_pointsAhead.1 kX8_170 tX4_pointsAhead.2.1 tX4_pointsAhead.2.2.1 rfl (by first | rfl | assumption) tX4_pointsAhead.2.2.2 ⟨⟨Nat.le_of_ble_eq_true rfl, Nat.le_of_ble_eq_true rfl⟩, Nat.le_of_ble_eq_true rfl, Nat.le_of_ble_eq_true rfl⟩ rfl (Nat.le_of_ble_eq_true rfl) ?_
    rintro r K' M' P' ⟨rfl, rfl, rfl, hM'⟩
    rw [hM']
    clear hM' M'
    refine ev_calls (c_shareBits (by omega) (by omega) _) dX8_share_20 tX8_shareBits.1 kX8_182 tX8_shareBits.2.1 tX8_shareBits.2.2 ⟨⟨Nat.le_of_ble_eq_true rfl, Nat.le_of_ble_eq_true rfl⟩, Nat.le_of_ble_eq_true rfl, Nat.le_of_ble_eq_true rfl⟩ rfl (Nat.le_of_ble_eq_true rfl) ?_
    rintro r K' M' P' ⟨rfl, rfl, rfl, hM'⟩
    rw [hM']
    clear hM' M'
    exact ev_lreturn dX8_share_23 rfl (rz (Or.inr ⟨k, rfl, by omega, by omega, rfl, rfl⟩))
  · have g2 := (not_congr hv2).mp (by omega)
    refine ev_ldc2 (z := -101) dX8_share_8 jX8_180 (by decide) ?_
    exact ev_lreturn dX8_share_11 rfl (rz (Or.inl ⟨by omega, rfl, rfl⟩))
noncomputable def cmpV (S T : PS) : Int := @ite _ ((∀ p, S p → T p) ∧ ∀ p, T p → S p) (Classical.propDecidable _) 0 (@ite _ (∀ p, S p → T p) (Classical.propDecidable _) 1 (@ite _ (∀ p, T p → S p) (Classical.propDecidable _) 2 (@ite _ (∃ p, S p ∧ T p) (Classical.propDecidable _) 3 4)))
theorem cmpV_0 {S T : PS} (h1 : ∀ p, S p → T p) (h2 : ∀ p, T p → S p) : cmpV S T = 0 := by unfold cmpV; rw [if_pos ⟨h1, h2⟩]
theorem cmpV_1 {S T : PS} (h1 : ∀ p, S p → T p) (h2 : ¬ ∀ p, T p → S p) : cmpV S T = 1 := by unfold cmpV; rw [if_neg (fun z => h2 z.2), if_pos h1]
theorem cmpV_2 {S T : PS} (h1 : ¬ ∀ p, S p → T p) (h2 : ∀ p, T p → S p) : cmpV S T = 2 := by unfold cmpV; rw [if_neg (fun z => h1 z.1), if_neg h1, if_pos h2]
theorem cmpV_3 {S T : PS} (h1 : ¬ ∀ p, S p → T p) (h2 : ¬ ∀ p, T p → S p) (h3 : ∃ p, S p ∧ T p) : cmpV S T = 3 := by unfold cmpV; rw [if_neg (fun z => h1 z.1), if_neg h1, if_neg h2, if_pos h3]
theorem cmpV_4 {S T : PS} (h1 : ¬ ∀ p, S p → T p) (h2 : ¬ ∀ p, T p → S p) (h3 : ¬ ∃ p, S p ∧ T p) : cmpV S T = 4 := by unfold cmpV; rw [if_neg (fun z => h1 z.1), if_neg h1, if_neg h2, if_neg h3]
theorem zmin_mt {f g : Int → Int} {a b : Int} (ha : lit a) (hb : lit b) : mt (zipS min f g 36) a b = min (mt f a b) (mt g a b) := by
  show (if 0 ≤ a * 6 + b ∧ a * 6 + b < ((36 : Nat) : Int) then _ else _) = _
  rw [if_pos (by omega)]
theorem meet_Rp {M : Mm} {c c2 : Nat} {S T : PS} (hS : Rp M c S) (hT : Rp M c2 T) (h0 : M c 1 = 0) (h2 : M c2 1 = 0) : Rp (mtM M c c2) c (fun p => S p ∧ T p) := by
  have b1 := hS.bd h0
  have b2 := hT.bd h2
  obtain ⟨-, q1⟩ := hS
  obtain ⟨-, q2⟩ := hT
  rcases q1 with q1 | ⟨-, f1, f2, f3⟩
  · omega
  rcases q2 with q2 | ⟨-, g1, g2, g3⟩
  · omega
  unfold mtM mtE
  rw [if_pos ⟨h0, h2⟩]
  have z0 : rwc (rwc M c (up1 (M c) 1 0)) (c + 1) (zipS min (M (c + 1)) (M (c2 + 1)) 36) c 1 = 0 := by rw [rwc_ne (by omega), rwc_at, up1_s]
  have zr : rwc (rwc M c (up1 (M c) 1 0)) (c + 1) (zipS min (M (c + 1)) (M (c2 + 1)) 36) (c + 1) = zipS min (M (c + 1)) (M (c2 + 1)) 36 := rwc_at _ _ _
  have := close_Rp z0 (by rw [zr]; intro a b ha hb; rw [zmin_mt ha hb, zmin_mt hb ha, f1.1 a b ha hb, g1.1 a b ha hb]) (by rw [zr]; intro a ha; rw [zmin_mt ha (nx_lit ha), f1.2.2.1 a ha, g1.2.2.1 a ha]; omega) (by rw [zr]; intro a ha; rw [zmin_mt ha ha]; have := f2 a ha; omega) (by rw [zr]; exact bdd_mt (fun a b ha hb => by rw [zmin_mt ha hb]; have := tc_mtb f1 f2 ha hb; have := tc_mtb g1 g2 ha hb; omega))
  rw [zr] at this
  have e : byB (zipS min (M (c + 1)) (M (c2 + 1)) 36) = fun p => S p ∧ T p := by
    funext p
    apply propext
    rw [f3, g3]
    constructor
    · rintro ⟨h, h'⟩
      exact ⟨⟨h, fun a b ha hb => by have := h' a b ha hb; rw [zmin_mt ha hb] at this; omega⟩, h, fun a b ha hb => by have := h' a b ha hb; rw [zmin_mt ha hb] at this; omega⟩
    · rintro ⟨⟨h, h'⟩, -, h''⟩
      exact ⟨h, fun a b ha hb => by rw [zmin_mt ha hb]; have := h' a b ha hb; have := h'' a b ha hb; omega⟩
  rw [e] at this
  exact this
theorem fr2_mt {M : Mm} {c c2 : Nat} : Fr2 M (mtM M c c2) c := fr2_rw.tr fr2_cl
theorem ex_of_nsub {S T : PS} (h : ¬ ∀ p, S p → T p) : ∃ p, S p := Classical.byContradiction fun z => h (fun p hp => absurd ⟨p, hp⟩ z)
theorem cmp_tail {k j : Nat} (hk : k ≤ 6) (hj : j ≤ 6) {M : Mm} {S T : PS} (hS : Rp M (aC k) S) (hT : Rp M (aC j) T) (w1 : ¬ ∀ p, S p → T p) (w2 : ¬ ∀ p, T p → S p) {Φ : Pz} (hΦ : ∀ r M', r = some (vI (cmpV S T)) → Fr2 M M' 52 → (M' 52 1 = 0 ∨ M' 52 1 = 1) → Φ r M') {w : Option V} {v : V} {u1 u2 : Option V} : Ev mX8_compare 82 [some (vR 0), w, some v, some (vR (aC k)), some (vR (aC j)), u1, u2] [] KK M PP 0 0 (Rz mX8_compare Φ) := by
  have sk := sh_aC hk
  have sj := sh_aC hj
  have n1 : 52 ≠ aC k := by unfold aC; omega
  have n2 : 52 ≠ aC j := by unfold aC; omega
  have n3 : aC j ≠ 52 + 1 ∧ aC j + 1 ≠ 52 := by unfold aC; omega
  have fin : ∀ M2, Rp M2 52 (fun p => S p ∧ T p) → Fr2 M M2 52 → Ev mX8_compare 99 [some (vR 0), none, none, none, none, none, none] [] KK M2 PP 0 0 (Rz mX8_compare Φ) := by
    intro M2 hR2 hF2
    have hE := hR2.e01
    first | refine ev_aload_n dX8_compare_99 rfl ?_ | refine ev_aloadX_n dX8_compare_99 rfl ?_
    refine ev_getR dX8_compare_100 fX8_67 rfl (by first | rfl | assumption) (by first | rfl | assumption) ?_
    refine ev_gI 1 dX8_compare_103 fX8_163 rfl (by first | rfl | assumption) rfl ?_
    refine ev_if_eq (tgt := 113) dX8_compare_106 (by decide) (by omega) (fun hb106 => ?_) (fun hb106 => ?_)
    · refine ev_iconst dX8_compare_113 ?_
      exact ev_ireturn dX8_compare_114 ⟨_, rfl, rfl⟩ (rz (hΦ _ _ (by first | rw [cmpV_3 w1 w2 (hR2.ne.mp (by omega))] | rw [cmpV_4 w1 w2 (fun z => by have := hR2.ne.mpr z; omega)]) hF2 hE))
    · refine ev_iconst dX8_compare_109 ?_
      refine ev_goto (tgt := 114) dX8_compare_110 (by decide) ?_
      exact ev_ireturn dX8_compare_114 ⟨_, rfl, rfl⟩ (rz (hΦ _ _ (by first | rw [cmpV_3 w1 w2 (hR2.ne.mp (by omega))] | rw [cmpV_4 w1 w2 (fun z => by have := hR2.ne.mpr z; omega)]) hF2 hE))
  first | refine ev_aload_n dX8_compare_82 rfl ?_ | refine ev_aloadX_n dX8_compare_82 rfl ?_
  refine ev_getR dX8_compare_83 fX8_67 rfl (by first | rfl | assumption) (by first | rfl | assumption) ?_
  first | refine ev_aload_n dX8_compare_86 rfl ?_ | refine ev_aloadX_n dX8_compare_86 rfl ?_
  refine ev_callv (ci := 6) (c_copy sh_52 sk n1 M hS.e01) dX8_compare_87 tX6_copy.1 kX8_190 tX6_copy.2.1 tX6_copy.2.2.1 rfl (by first | rfl | assumption) tX6_copy.2.2.2 ⟨⟨Nat.le_of_ble_eq_true rfl, Nat.le_of_ble_eq_true rfl⟩, Nat.le_of_ble_eq_true rfl, Nat.le_of_ble_eq_true rfl⟩ rfl (Nat.le_of_ble_eq_true rfl) ?_
  rintro r K' M1 P' ⟨rfl, rfl, rfl, hM1⟩
  have hF1 : Fr2 M M1 52 := by rw [hM1]; exact fr2_cp
  have hR1 : Rp M1 52 S := by rw [hM1]; exact Rp_cp hS
  have hT1 : Rp M1 (aC j) T := Rp_fr hT hF1 (Ne.symm n2) n3.1 n3.2
  have e1 := hR1.ne.mpr (ex_of_nsub w1)
  have e2 := hT1.ne.mpr (ex_of_nsub w2)
  first | refine ev_aload_n dX8_compare_90 rfl ?_ | refine ev_aloadX_n dX8_compare_90 rfl ?_
  refine ev_getR dX8_compare_91 fX8_67 rfl (by first | rfl | assumption) (by first | rfl | assumption) ?_
  first | refine ev_aload dX8_compare_94 rfl ?_ | refine ev_aloadX dX8_compare_94 rfl ?_
  refine ev_callv (ci := 6) (c_meet sh_52 sj n2 M1 hR1.e01 hT1.e01 (bdd_mono (hR1.bd e1) (by omega)) (bdd_mono (hT1.bd e2) (by omega))) dX8_compare_96 tX6_meet.1 kX8_193 tX6_meet.2.1 tX6_meet.2.2.1 rfl (by first | rfl | assumption) tX6_meet.2.2.2 ⟨⟨Nat.le_of_ble_eq_true rfl, Nat.le_of_ble_eq_true rfl⟩, Nat.le_of_ble_eq_true rfl, Nat.le_of_ble_eq_true rfl⟩ rfl (Nat.le_of_ble_eq_true rfl) ?_
  rintro r K' M2 P' ⟨rfl, rfl, rfl, hM2⟩
  have hR2 : Rp M2 52 (fun p => S p ∧ T p) := by rw [hM2]; exact meet_Rp hR1 hT1 e1 e2
  have hF2 : Fr2 M M2 52 := by rw [hM2]; exact hF1.tr fr2_mt
  have hfin := fin M2 hR2 hF2
  exact ev_to hfin (by repeat (first | exact trivial | refine ⟨rfl, ?_⟩)) rfl rfl rfl rfl
theorem c_compare {n : Nat} {x y : Int} (hx : inR x) (hy : inR y) (M : Mm) (hC : CI M n) {A : Nat → PS} (hA : 0 < n → ∀ q, q ≤ n → Rp M (aC q) (A q)) : Cm mX8_compare [vR 0, vI x, vI y] M (fun r M' => (¬ (0 < n ∧ (0 ≤ x ∧ x ≤ n) ∧ (0 ≤ y ∧ y ≤ n)) ∧ r = some (vI (-101)) ∧ M' = M) ∨ ∃ k j : Nat, x = k ∧ y = j ∧ 0 < n ∧ k ≤ n ∧ j ≤ n ∧ r = some (vI (cmpV (A k) (A j))) ∧ Fr2 M M' 52 ∧ (M' 52 1 = 0 ∨ M' 52 1 = 1)) := by
  have hs := hC.sz
  have h6 := hC.n6
  have hsc := hC.sc
  refine cm_of (by decide +kernel) (fun _ => trivial) (Nat.le_of_ble_eq_true rfl) ?_
  first | refine ev_aload_n dX8_compare_0 rfl ?_ | refine ev_aloadX_n dX8_compare_0 rfl ?_
  refine ev_iload_n dX8_compare_1 rfl ?_
  refine ev_callv (ci := 8) (c_hasShape hx M (by omega)) dX8_compare_2 tX8_hasShape.1 kX8_153 tX8_hasShape.2.1 tX8_hasShape.2.2.1 rfl (by first | rfl | assumption) tX8_hasShape.2.2.2 ⟨⟨Nat.le_of_ble_eq_true rfl, Nat.le_of_ble_eq_true rfl⟩, Nat.le_of_ble_eq_true rfl, Nat.le_of_ble_eq_true rfl⟩ rfl (Nat.le_of_ble_eq_true rfl) ?_
  rintro r K' M' P' ⟨rfl, rfl, ⟨v2, rfl, hw2, hv2⟩, hM'⟩
  rw [hM']
  clear hM' M'
  refine ev_if_eq (tgt := 16) dX8_compare_5 (by decide) (by omega) (fun hb5 => ?_) (fun hb5 => ?_)
  · have g2 := (not_congr hv2).mp (by omega)
    refine ev_bipush dX8_compare_16 ?_
    exact ev_ireturn dX8_compare_18 ⟨_, rfl, rfl⟩ (rz (Or.inl ⟨by omega, rfl, rfl⟩))
  · have g2 := hv2.mp (by omega)
    first | refine ev_aload_n dX8_compare_8 rfl ?_ | refine ev_aloadX_n dX8_compare_8 rfl ?_
    refine ev_iload_n dX8_compare_9 rfl ?_
    refine ev_callv (ci := 8) (c_hasShape hy M (by omega)) dX8_compare_10 tX8_hasShape.1 kX8_153 tX8_hasShape.2.1 tX8_hasShape.2.2.1 rfl (by first | rfl | assumption) tX8_hasShape.2.2.2 ⟨⟨Nat.le_of_ble_eq_true rfl, Nat.le_of_ble_eq_true rfl⟩, Nat.le_of_ble_eq_true rfl, Nat.le_of_ble_eq_true rfl⟩ rfl (Nat.le_of_ble_eq_true rfl) ?_
    rintro r K' M' P' ⟨rfl, rfl, ⟨v10, rfl, hw10, hv10⟩, hM'⟩
    rw [hM']
    clear hM' M'
    refine ev_if_ne (tgt := 19) dX8_compare_13 (by decide) (by omega) (fun hb13 => ?_) (fun hb13 => ?_)
    · have g10 := hv10.mp (by omega)
      obtain ⟨k, rfl⟩ := Int.eq_ofNat_of_zero_le g2.2.1
      obtain ⟨j, rfl⟩ := Int.eq_ofNat_of_zero_le g10.2.1
      have hS := hA (by omega) k (by omega)
      have hT := hA (by omega) j (by omega)
      have pk := pp_aC (k := k) (by omega)
      have pj := pp_aC (k := j) (by omega)
      have sk := sh_aC (k := k) (by omega)
      have sj := sh_aC (k := j) (by omega)
      have kk := sk.1
      have kj := sj.1
      first | refine ev_aload_n dX8_compare_19 rfl ?_ | refine ev_aloadX_n dX8_compare_19 rfl ?_
      refine ev_getR dX8_compare_20 fX8_33 rfl (by first | rfl | assumption) (by first | rfl | assumption) ?_
      refine ev_getR dX8_compare_23 fX8_159 rfl (by first | rfl | assumption) (by first | rfl | assumption) ?_
      refine ev_iload_n dX8_compare_26 rfl ?_
      refine ev_aaload dX8_compare_27 (by first | rfl | assumption) (by omega) (by omega) (by decide) (by first | rfl | assumption) ?_
      refine ev_astore_n dX8_compare_28 (by decide) ?_
      first | refine ev_aload_n dX8_compare_29 rfl ?_ | refine ev_aloadX_n dX8_compare_29 rfl ?_
      refine ev_getR dX8_compare_30 fX8_33 rfl (by first | rfl | assumption) (by first | rfl | assumption) ?_
      refine ev_getR dX8_compare_33 fX8_159 rfl (by first | rfl | assumption) (by first | rfl | assumption) ?_
      refine ev_iload_n dX8_compare_36 rfl ?_
      refine ev_aaload dX8_compare_37 (by first | rfl | assumption) (by omega) (by omega) (by decide) (by first | rfl | assumption) ?_
      refine ev_astore dX8_compare_38 (by decide) ?_
      first | refine ev_aload_n dX8_compare_40 rfl ?_ | refine ev_aloadX_n dX8_compare_40 rfl ?_
      first | refine ev_aload dX8_compare_41 rfl ?_ | refine ev_aloadX dX8_compare_41 rfl ?_
      refine ev_callv (ci := 6) (c_isWithin sk sj M hS.e01 hT.e01 (bdd_mono hS.1 (by omega)) (bdd_mono hT.1 (by omega))) dX8_compare_43 tX6_isWithin.1 kX8_186 tX6_isWithin.2.1 tX6_isWithin.2.2.1 rfl (by first | rfl | assumption) tX6_isWithin.2.2.2 ⟨⟨Nat.le_of_ble_eq_true rfl, Nat.le_of_ble_eq_true rfl⟩, Nat.le_of_ble_eq_true rfl, Nat.le_of_ble_eq_true rfl⟩ rfl (Nat.le_of_ble_eq_true rfl) ?_
      rintro r K' M' P' ⟨rfl, rfl, ⟨v43, rfl, hw43, hv43⟩, hM'⟩
      rw [hM']
      clear hM' M'
      rw [Rp_wth hS hT] at hv43
      refine ev_istore dX8_compare_46 (by decide) ?_
      first | refine ev_aload dX8_compare_48 rfl ?_ | refine ev_aloadX dX8_compare_48 rfl ?_
      first | refine ev_aload_n dX8_compare_50 rfl ?_ | refine ev_aloadX_n dX8_compare_50 rfl ?_
      refine ev_callv (ci := 6) (c_isWithin sj sk M hT.e01 hS.e01 (bdd_mono hT.1 (by omega)) (bdd_mono hS.1 (by omega))) dX8_compare_51 tX6_isWithin.1 kX8_186 tX6_isWithin.2.1 tX6_isWithin.2.2.1 rfl (by first | rfl | assumption) tX6_isWithin.2.2.2 ⟨⟨Nat.le_of_ble_eq_true rfl, Nat.le_of_ble_eq_true rfl⟩, Nat.le_of_ble_eq_true rfl, Nat.le_of_ble_eq_true rfl⟩ rfl (Nat.le_of_ble_eq_true rfl) ?_
      rintro r K' M' P' ⟨rfl, rfl, ⟨v51, rfl, hw51, hv51⟩, hM'⟩
      rw [hM']
      clear hM' M'
      rw [Rp_wth hT hS] at hv51
      refine ev_istore dX8_compare_54 (by decide) ?_
      refine ev_iload dX8_compare_56 rfl ?_
      refine ev_if_eq (tgt := 68) dX8_compare_58 (by decide) (by omega) (fun hb58 => ?_) (fun hb58 => ?_)
      · refine ev_iload dX8_compare_68 rfl ?_
        refine ev_if_eq (tgt := 75) dX8_compare_70 (by decide) (by omega) (fun hb70 => ?_) (fun hb70 => ?_)
        · refine ev_iload dX8_compare_75 rfl ?_
          refine ev_if_eq (tgt := 82) dX8_compare_77 (by decide) (by omega) (fun hb77 => ?_) (fun hb77 => ?_)
          · exact cmp_tail (by omega) (by omega) hS hT ((not_congr hv43).mp (by omega)) ((not_congr hv51).mp (by omega)) (fun r M' q1 q2 q3 => Or.inr ⟨k, j, rfl, rfl, by omega, by omega, by omega, q1, q2, q3⟩)
          · refine ev_iconst dX8_compare_80 ?_
            exact ev_ireturn dX8_compare_81 ⟨_, rfl, rfl⟩ (rz (Or.inr ⟨k, j, rfl, rfl, by omega, by omega, by omega, by rw [cmpV_2 ((not_congr hv43).mp (by omega)) (hv51.mp (by omega))], fr2_rf, hsc⟩))
        · refine ev_iconst dX8_compare_73 ?_
          exact ev_ireturn dX8_compare_74 ⟨_, rfl, rfl⟩ (rz (Or.inr ⟨k, j, rfl, rfl, by omega, by omega, by omega, by rw [cmpV_1 (hv43.mp (by omega)) ((not_congr hv51).mp (by omega))], fr2_rf, hsc⟩))
      · refine ev_iload dX8_compare_61 rfl ?_
        refine ev_if_eq (tgt := 68) dX8_compare_63 (by decide) (by omega) (fun hb63 => ?_) (fun hb63 => ?_)
        · refine ev_iload dX8_compare_68 rfl ?_
          refine ev_if_eq (tgt := 75) dX8_compare_70 (by decide) (by omega) (fun hb70 => ?_) (fun hb70 => ?_)
          · refine ev_iload dX8_compare_75 rfl ?_
            refine ev_if_eq (tgt := 82) dX8_compare_77 (by decide) (by omega) (fun hb77 => ?_) (fun hb77 => ?_)
            · exact cmp_tail (by omega) (by omega) hS hT ((not_congr hv43).mp (by omega)) ((not_congr hv51).mp (by omega)) (fun r M' q1 q2 q3 => Or.inr ⟨k, j, rfl, rfl, by omega, by omega, by omega, q1, q2, q3⟩)
            · refine ev_iconst dX8_compare_80 ?_
              exact ev_ireturn dX8_compare_81 ⟨_, rfl, rfl⟩ (rz (Or.inr ⟨k, j, rfl, rfl, by omega, by omega, by omega, by rw [cmpV_2 ((not_congr hv43).mp (by omega)) (hv51.mp (by omega))], fr2_rf, hsc⟩))
          · refine ev_iconst dX8_compare_73 ?_
            exact ev_ireturn dX8_compare_74 ⟨_, rfl, rfl⟩ (rz (Or.inr ⟨k, j, rfl, rfl, by omega, by omega, by omega, by rw [cmpV_1 (hv43.mp (by omega)) ((not_congr hv51).mp (by omega))], fr2_rf, hsc⟩))
        · refine ev_iconst dX8_compare_66 ?_
          exact ev_ireturn dX8_compare_67 ⟨_, rfl, rfl⟩ (rz (Or.inr ⟨k, j, rfl, rfl, by omega, by omega, by omega, by rw [cmpV_0 (hv43.mp (by omega)) (hv51.mp (by omega))], fr2_rf, hsc⟩))
    · have g10 := (not_congr hv10).mp (by omega)
      refine ev_bipush dX8_compare_16 ?_
      exact ev_ireturn dX8_compare_18 ⟨_, rfl, rfl⟩ (rz (Or.inl ⟨by omega, rfl, rfl⟩))
theorem c_isIdle {n : Nat} {k : Nat} (hk : k < n) (M : Mm) (hC : CI M n) {A : Nat → PS} (hA : ∀ q, q ≤ n → Rp M (aC q) (A q)) : Cm mX8_isIdle [vR 0, vI (k : Int)] M (fun r M' => yn (M 10 k ≠ 4 ∧ (∃ p, A k p) ∧ A k = A (k + 1)) r ∧ M' = M) := by
  have hs := hC.sz
  have h6 := hC.n6
  have hb := hC.b9 k (by omega) (by omega)
  simp only [Nat.reduceAdd] at hb
  refine cm_of (by decide +kernel) (fun _ => trivial) (Nat.le_of_ble_eq_true rfl) ?_
  first | refine ev_aload_n dX8_isIdle_0 rfl ?_ | refine ev_aloadX_n dX8_isIdle_0 rfl ?_
  refine ev_getR dX8_isIdle_1 fX8_26 rfl (by first | rfl | assumption) (by first | rfl | assumption) ?_
  refine ev_getR dX8_isIdle_4 fX8_110 rfl (by first | rfl | assumption) (by first | rfl | assumption) ?_
  refine ev_iload_n dX8_isIdle_7 rfl ?_
  refine ev_iaload dX8_isIdle_8 (by first | rfl | assumption) (by omega) (by omega) (by decide) ?_
  refine ev_iconst dX8_isIdle_9 ?_
  refine ev_icmp_eq (tgt := 28) dX8_isIdle_10 (by decide) (by omega) (by omega) (fun hb10 => ?_) (fun hb10 => ?_)
  · refine ev_iconst dX8_isIdle_28 ?_
    exact ev_ireturn dX8_isIdle_29 (okR_z rfl (by first | exact Or.inl rfl | exact Or.inr rfl | assumption)) (rz (by first | exact ⟨yn_1 ⟨hb10, g18⟩, rfl⟩ | exact ⟨yn_0 (fun z => g18 z.2), rfl⟩ | exact ⟨yn_0 (fun z => z.1 hb10), rfl⟩))
  · first | refine ev_aload_n dX8_isIdle_13 rfl ?_ | refine ev_aloadX_n dX8_isIdle_13 rfl ?_
    refine ev_getR dX8_isIdle_14 fX8_33 rfl (by first | rfl | assumption) (by first | rfl | assumption) ?_
    refine ev_iload_n dX8_isIdle_17 rfl ?_
    refine ev_callv (ci := 4) (c_changesNothing (by omega) M (hA k (by omega)) (hA (k + 1) (by omega))) dX8_isIdle_18 tX4_changesNothing.1 kX8_303 tX4_changesNothing.2.1 tX4_changesNothing.2.2.1 rfl (by first | rfl | assumption) tX4_changesNothing.2.2.2 ⟨⟨Nat.le_of_ble_eq_true rfl, Nat.le_of_ble_eq_true rfl⟩, Nat.le_of_ble_eq_true rfl, Nat.le_of_ble_eq_true rfl⟩ rfl (Nat.le_of_ble_eq_true rfl) ?_
    rintro r K' M' P' ⟨rfl, rfl, ⟨v18, rfl, hw18, hv18⟩, hM'⟩
    rw [hM']
    clear hM' M'
    refine ev_if_eq (tgt := 28) dX8_isIdle_21 (by decide) (by omega) (fun hb21 => ?_) (fun hb21 => ?_)
    · have g18 := (not_congr hv18).mp (by omega)
      refine ev_iconst dX8_isIdle_28 ?_
      exact ev_ireturn dX8_isIdle_29 (okR_z rfl (by first | exact Or.inl rfl | exact Or.inr rfl | assumption)) (rz (by first | exact ⟨yn_1 ⟨hb10, g18⟩, rfl⟩ | exact ⟨yn_0 (fun z => g18 z.2), rfl⟩ | exact ⟨yn_0 (fun z => z.1 hb10), rfl⟩))
    · have g18 := hv18.mp (by omega)
      refine ev_iconst dX8_isIdle_24 ?_
      refine ev_goto (tgt := 29) dX8_isIdle_25 (by decide) ?_
      exact ev_ireturn dX8_isIdle_29 (okR_z rfl (by first | exact Or.inl rfl | exact Or.inr rfl | assumption)) (rz (by first | exact ⟨yn_1 ⟨hb10, g18⟩, rfl⟩ | exact ⟨yn_0 (fun z => g18 z.2), rfl⟩ | exact ⟨yn_0 (fun z => z.1 hb10), rfl⟩))
noncomputable def b01 (P : Prop) : Int := @ite _ P (Classical.propDecidable _) 1 0
theorem b01_1 {P : Prop} (h : P) : b01 P = 1 := by unfold b01; rw [if_pos h]
theorem b01_0 {P : Prop} (h : ¬ P) : b01 P = 0 := by unfold b01; rw [if_neg h]
theorem b01_v {P : Prop} {v : Int} (h : v = 0 ∨ v = 1) (h2 : v = 1 ↔ P) : v = b01 P := by
  by_cases hp : P
  · rw [b01_1 hp]; exact h2.mpr hp
  · rw [b01_0 hp]
    rcases h with h | h
    · exact h
    · exact absurd (h2.mp h) hp
theorem b01_rng (P : Prop) : b01 P = 0 ∨ b01 P = 1 := by
  by_cases hp : P
  · exact Or.inr (b01_1 hp)
  · exact Or.inl (b01_0 hp)
/-- dead, and idle -/
noncomputable def deadV (A : Nat → PS) (i : Int) : Int := b01 (∀ p, ¬ A i.toNat p)
noncomputable def idleV (kf : Int → Int) (A : Nat → PS) (i : Int) : Int := b01 (kf i ≠ 4 ∧ (∃ p, A i.toNat p) ∧ A i.toNat = A (i.toNat + 1))
theorem Rp.em {M : Mm} {c : Nat} {S : PS} (h : Rp M c S) : M c 1 = 1 ↔ ∀ p, ¬ S p := by
  have h1 := h.ne
  have h2 := h.e01
  constructor
  · intro h3 p hp
    have := h1.mpr ⟨p, hp⟩
    omega
  · intro h3
    rcases h2 with h2 | h2
    · obtain ⟨p, hp⟩ := h1.mp h2
      exact absurd hp (h3 p)
    · exact h2
theorem c_countDead {n : Nat} (M : Mm) (hC : CI M n) {A : Nat → PS} (hA : 0 < n → ∀ q, q ≤ n → Rp M (aC q) (A q)) : Cm mX8_countDead [vR 0] M (fun r M' => r = some (vI (sumS (deadV A) n)) ∧ M' = M) := by
  have hs := hC.sz
  have h6 := hC.n6
  refine cm_of (by decide +kernel) (fun _ => trivial) (Nat.le_of_ble_eq_true rfl) ?_
  refine ev_iconst dX8_countDead_0 ?_
  refine ev_istore_n dX8_countDead_1 (by decide) ?_
  refine ev_iconst dX8_countDead_2 ?_
  refine ev_istore_n dX8_countDead_3 (by decide) ?_
  refine ev_to (L' := [some (vR 0), some (vI (sumS (deadV A) (0 : Nat))), some (vI ((0 : Nat) : Int))]) (S' := []) (M' := M) (k' := 0) (n' := 0) ?_ (by repeat (first | exact trivial | refine ⟨rfl, ?_⟩)) rfl rfl rfl rfl
  refine up_loop (P := fun i => Ev mX8_countDead 4 [some (vR 0), some (vI (sumS (deadV A) i)), some (vI (i : Int))] [] KK (M) PP 0 0 _) n ?_ ?_
  · refine ev_iload_n dX8_countDead_4 rfl ?_
    first | refine ev_aload_n dX8_countDead_5 rfl ?_ | refine ev_aloadX_n dX8_countDead_5 rfl ?_
    refine ev_getR dX8_countDead_6 fX8_26 rfl (by first | rfl | assumption) (by first | rfl | assumption) ?_
    refine ev_gI 4 dX8_countDead_9 fX8_105 rfl (by first | rfl | assumption) rfl ?_
    refine ev_icmp_ge (tgt := 35) dX8_countDead_12 (by decide) (by omega) (by omega) (fun hb12 => ?_) (fun hb12 => ?_)
    · refine ev_iload_n dX8_countDead_35 rfl ?_
      exact ev_ireturn dX8_countDead_36 ⟨_, rfl, rfl⟩ (rz ⟨rfl, rfl⟩)
    · omega
  · intro i hi hP
    have hR := hA (by omega) i (by omega)
    simp only [sumS] at hP
    refine ev_iload_n dX8_countDead_4 rfl ?_
    first | refine ev_aload_n dX8_countDead_5 rfl ?_ | refine ev_aloadX_n dX8_countDead_5 rfl ?_
    refine ev_getR dX8_countDead_6 fX8_26 rfl (by first | rfl | assumption) (by first | rfl | assumption) ?_
    refine ev_gI 4 dX8_countDead_9 fX8_105 rfl (by first | rfl | assumption) rfl ?_
    refine ev_icmp_ge (tgt := 35) dX8_countDead_12 (by decide) (by omega) (by omega) (fun hb12 => ?_) (fun hb12 => ?_)
    · omega
    · refine ev_iload_n dX8_countDead_15 rfl ?_
      first | refine ev_aload_n dX8_countDead_16 rfl ?_ | refine ev_aloadX_n dX8_countDead_16 rfl ?_
      refine ev_getR dX8_countDead_17 fX8_33 rfl (by first | rfl | assumption) (by first | rfl | assumption) ?_
      refine ev_iload_n dX8_countDead_20 rfl ?_
      refine ev_callv (ci := 4) (c_isDead (by omega) M hR.e01) dX8_countDead_21 tX4_isDead.1 kX8_126 tX4_isDead.2.1 tX4_isDead.2.2.1 rfl (by first | rfl | assumption) tX4_isDead.2.2.2 ⟨⟨Nat.le_of_ble_eq_true rfl, Nat.le_of_ble_eq_true rfl⟩, Nat.le_of_ble_eq_true rfl, Nat.le_of_ble_eq_true rfl⟩ rfl (Nat.le_of_ble_eq_true rfl) ?_
      rintro r K' M' P' ⟨rfl, rfl, ⟨v21, rfl, hw21, hv21⟩, hM'⟩
      rw [hM']
      clear hM' M'
      refine ev_calls (c_asInt hw21 M) dX8_countDead_24 tX8_asInt.1 kX8_129 tX8_asInt.2.1 tX8_asInt.2.2 ⟨⟨Nat.le_of_ble_eq_true rfl, Nat.le_of_ble_eq_true rfl⟩, Nat.le_of_ble_eq_true rfl, Nat.le_of_ble_eq_true rfl⟩ rfl (Nat.le_of_ble_eq_true rfl) ?_
      rintro r K' M' P' ⟨rfl, rfl, rfl, hM'⟩
      rw [hM']
      clear hM' M'
      have e : v21 = deadV A i := by rw [hR.em] at hv21; exact b01_v hw21 hv21
      rw [e]
      refine ev_iadd dX8_countDead_27 ?_
      refine ev_istore_n dX8_countDead_28 (by decide) ?_
      refine ev_iinc dX8_countDead_29 rfl (by decide) ?_
      refine ev_goto (tgt := 4) dX8_countDead_32 (by decide) ?_
      exact ev_to hP (by repeat (first | exact trivial | refine ⟨rfl, ?_⟩)) rfl rfl rfl rfl
theorem c_countIdle {n : Nat} (M : Mm) (hC : CI M n) {A : Nat → PS} (hA : 0 < n → ∀ q, q ≤ n → Rp M (aC q) (A q)) : Cm mX8_countIdle [vR 0] M (fun r M' => r = some (vI (sumS (idleV (M 10) A) n)) ∧ M' = M) := by
  have hs := hC.sz
  have h6 := hC.n6
  refine cm_of (by decide +kernel) (fun _ => trivial) (Nat.le_of_ble_eq_true rfl) ?_
  refine ev_iconst dX8_countIdle_0 ?_
  refine ev_istore_n dX8_countIdle_1 (by decide) ?_
  refine ev_iconst dX8_countIdle_2 ?_
  refine ev_istore_n dX8_countIdle_3 (by decide) ?_
  refine ev_to (L' := [some (vR 0), some (vI (sumS (idleV (M 10) A) (0 : Nat))), some (vI ((0 : Nat) : Int))]) (S' := []) (M' := M) (k' := 0) (n' := 0) ?_ (by repeat (first | exact trivial | refine ⟨rfl, ?_⟩)) rfl rfl rfl rfl
  refine up_loop (P := fun i => Ev mX8_countIdle 4 [some (vR 0), some (vI (sumS (idleV (M 10) A) i)), some (vI (i : Int))] [] KK (M) PP 0 0 _) n ?_ ?_
  · refine ev_iload_n dX8_countIdle_4 rfl ?_
    first | refine ev_aload_n dX8_countIdle_5 rfl ?_ | refine ev_aloadX_n dX8_countIdle_5 rfl ?_
    refine ev_getR dX8_countIdle_6 fX8_26 rfl (by first | rfl | assumption) (by first | rfl | assumption) ?_
    refine ev_gI 4 dX8_countIdle_9 fX8_105 rfl (by first | rfl | assumption) rfl ?_
    refine ev_icmp_ge (tgt := 32) dX8_countIdle_12 (by decide) (by omega) (by omega) (fun hb12 => ?_) (fun hb12 => ?_)
    · refine ev_iload_n dX8_countIdle_32 rfl ?_
      exact ev_ireturn dX8_countIdle_33 ⟨_, rfl, rfl⟩ (rz ⟨rfl, rfl⟩)
    · omega
  · intro i hi hP
    simp only [sumS] at hP
    refine ev_iload_n dX8_countIdle_4 rfl ?_
    first | refine ev_aload_n dX8_countIdle_5 rfl ?_ | refine ev_aloadX_n dX8_countIdle_5 rfl ?_
    refine ev_getR dX8_countIdle_6 fX8_26 rfl (by first | rfl | assumption) (by first | rfl | assumption) ?_
    refine ev_gI 4 dX8_countIdle_9 fX8_105 rfl (by first | rfl | assumption) rfl ?_
    refine ev_icmp_ge (tgt := 32) dX8_countIdle_12 (by decide) (by omega) (by omega) (fun hb12 => ?_) (fun hb12 => ?_)
    · omega
    · refine ev_iload_n dX8_countIdle_15 rfl ?_
      first | refine ev_aload_n dX8_countIdle_16 rfl ?_ | refine ev_aloadX_n dX8_countIdle_16 rfl ?_
      refine ev_iload_n dX8_countIdle_17 rfl ?_
      refine ev_callv (ci := 8) (c_isIdle hi M hC (hA (by omega))) dX8_countIdle_18 tX8_isIdle.1 kX8_136 tX8_isIdle.2.1 tX8_isIdle.2.2.1 rfl (by first | rfl | assumption) tX8_isIdle.2.2.2 ⟨⟨Nat.le_of_ble_eq_true rfl, Nat.le_of_ble_eq_true rfl⟩, Nat.le_of_ble_eq_true rfl, Nat.le_of_ble_eq_true rfl⟩ rfl (Nat.le_of_ble_eq_true rfl) ?_
      rintro r K' M' P' ⟨rfl, rfl, ⟨v18, rfl, hw18, hv18⟩, hM'⟩
      rw [hM']
      clear hM' M'
      refine ev_calls (c_asInt hw18 M) dX8_countIdle_21 tX8_asInt.1 kX8_129 tX8_asInt.2.1 tX8_asInt.2.2 ⟨⟨Nat.le_of_ble_eq_true rfl, Nat.le_of_ble_eq_true rfl⟩, Nat.le_of_ble_eq_true rfl, Nat.le_of_ble_eq_true rfl⟩ rfl (Nat.le_of_ble_eq_true rfl) ?_
      rintro r K' M' P' ⟨rfl, rfl, rfl, hM'⟩
      rw [hM']
      clear hM' M'
      have e : v18 = idleV (M 10) A i := b01_v hw18 hv18
      rw [e]
      refine ev_iadd dX8_countIdle_24 ?_
      refine ev_istore_n dX8_countIdle_25 (by decide) ?_
      refine ev_iinc dX8_countIdle_26 rfl (by decide) ?_
      refine ev_goto (tgt := 4) dX8_countIdle_29 (by decide) ?_
      exact ev_to hP (by repeat (first | exact trivial | refine ⟨rfl, ?_⟩)) rfl rfl rfl rfl
theorem c_racked {n : Nat} {x y : Int} (hx : inR x) (hy : inR y) (M : Mm) (hC : CI M n) : Cm mX8_racked [vR 0, vI x, vI y] M (fun r M' => r = some (vI (if x < 0 ∨ 5 ≤ x ∨ y < 0 ∨ 3 ≤ y then -102 else if y < M 39 x then M 38 (x * 3 + y) else -1)) ∧ M' = M) := by
  refine cm_of (by decide +kernel) (fun _ => trivial) (Nat.le_of_ble_eq_true rfl) ?_
  refine ev_iload_n dX8_racked_0 rfl ?_
  refine ev_calls (c_isKind hx M) dX8_racked_1 tX8_isKind.1 kX8_146 tX8_isKind.2.1 tX8_isKind.2.2 ⟨⟨Nat.le_of_ble_eq_true rfl, Nat.le_of_ble_eq_true rfl⟩, Nat.le_of_ble_eq_true rfl, Nat.le_of_ble_eq_true rfl⟩ rfl (Nat.le_of_ble_eq_true rfl) ?_
  rintro r K' M' P' ⟨rfl, rfl, ⟨v1, rfl, hw1, hv1⟩, hM'⟩
  rw [hM']
  clear hM' M'
  refine ev_if_eq (tgt := 16) dX8_racked_4 (by decide) (by omega) (fun hb4 => ?_) (fun hb4 => ?_)
  · have g1 := (not_congr hv1).mp (by omega)
    refine ev_bipush dX8_racked_16 ?_
    exact ev_ireturn dX8_racked_18 ⟨_, rfl, rfl⟩ (rz ⟨by (repeat' split) <;> first | rfl | omega, rfl⟩)
  · have g1 := hv1.mp (by omega)
    refine ev_iload_n dX8_racked_7 rfl ?_
    refine ev_if_lt (tgt := 16) dX8_racked_8 (by decide) (by omega) (fun hb8 => ?_) (fun hb8 => ?_)
    · refine ev_bipush dX8_racked_16 ?_
      exact ev_ireturn dX8_racked_18 ⟨_, rfl, rfl⟩ (rz ⟨by (repeat' split) <;> first | rfl | omega, rfl⟩)
    · refine ev_iload_n dX8_racked_11 rfl ?_
      refine ev_iconst dX8_racked_12 ?_
      refine ev_icmp_lt (tgt := 19) dX8_racked_13 (by decide) (by omega) (by omega) (fun hb13 => ?_) (fun hb13 => ?_)
      · have hk := hC.rk x (by omega) (by omega)
        first | refine ev_aload_n dX8_racked_19 rfl ?_ | refine ev_aloadX_n dX8_racked_19 rfl ?_
        refine ev_getR dX8_racked_20 fX8_40 rfl (by first | rfl | assumption) (by first | rfl | assumption) ?_
        refine ev_iload_n dX8_racked_23 rfl ?_
        refine ev_iload_n dX8_racked_24 rfl ?_
        refine ev_callv (ci := 2) (c_stepAt M (by omega) (by omega) (by omega) (by omega) (by omega)) dX8_racked_25 tX2_stepAt.1 kX8_222 tX2_stepAt.2.1 tX2_stepAt.2.2.1 rfl (by first | rfl | assumption) tX2_stepAt.2.2.2 ⟨⟨Nat.le_of_ble_eq_true rfl, Nat.le_of_ble_eq_true rfl⟩, Nat.le_of_ble_eq_true rfl, Nat.le_of_ble_eq_true rfl⟩ rfl (Nat.le_of_ble_eq_true rfl) ?_
        rintro r K' M' P' ⟨rfl, rfl, rfl, hM'⟩
        rw [hM']
        clear hM' M'
        exact ev_ireturn dX8_racked_28 ⟨_, rfl, rfl⟩ (rz ⟨by (repeat' split) <;> first | rfl | omega, rfl⟩)
      · refine ev_bipush dX8_racked_16 ?_
        exact ev_ireturn dX8_racked_18 ⟨_, rfl, rfl⟩ (rz ⟨by (repeat' split) <;> first | rfl | omega, rfl⟩)
theorem c_rack {n : Nat} {x y : Int} (hx : inR x) (hy : inR y) (M : Mm) (hC : CI M n) : Cm mX8_rack [vR 0, vI x, vI y] M (fun r M' => ((x < 0 ∨ n ≤ x) ∧ r = some (vI (-101)) ∧ M' = M) ∨ ((0 ≤ x ∧ x < n) ∧ (y < 0 ∨ 5 ≤ y) ∧ r = some (vI (-102)) ∧ M' = M) ∨ ((0 ≤ x ∧ x < n) ∧ (0 ≤ y ∧ y < 5) ∧ M 39 y = 3 ∧ r = some (vI (-104)) ∧ M' = M) ∨ ((0 ≤ x ∧ x < n) ∧ (0 ≤ y ∧ y < 5) ∧ M 39 y < 3 ∧ ¬ (y = 0 ∨ M 10 x = y ∨ (y = 1 ∧ M 10 x = 3)) ∧ r = some (vI (-1)) ∧ M' = M) ∨ ((0 ≤ x ∧ x < n) ∧ (0 ≤ y ∧ y < 5) ∧ M 39 y < 3 ∧ (y = 0 ∨ M 10 x = y ∨ (y = 1 ∧ M 10 x = 3)) ∧ r = some (vI (M 39 y + 1)) ∧ M' = rwc (rwc M 38 (up1 (M 38) (y * 3 + M 39 y) x)) 39 (up1 (M 39) y (M 39 y + 1)))) := by
  have hs := hC.sz
  have h6 := hC.n6
  refine cm_of (by decide +kernel) (fun _ => trivial) (Nat.le_of_ble_eq_true rfl) ?_
  first | refine ev_aload_n dX8_rack_0 rfl ?_ | refine ev_aloadX_n dX8_rack_0 rfl ?_
  refine ev_iload_n dX8_rack_1 rfl ?_
  refine ev_callv (ci := 8) (c_isStep hx M (by omega)) dX8_rack_2 tX8_isStep.1 kX8_106 tX8_isStep.2.1 tX8_isStep.2.2.1 rfl (by first | rfl | assumption) tX8_isStep.2.2.2 ⟨⟨Nat.le_of_ble_eq_true rfl, Nat.le_of_ble_eq_true rfl⟩, Nat.le_of_ble_eq_true rfl, Nat.le_of_ble_eq_true rfl⟩ rfl (Nat.le_of_ble_eq_true rfl) ?_
  rintro r K' M' P' ⟨rfl, rfl, ⟨v2, rfl, hw2, hv2⟩, hM'⟩
  rw [hM']
  clear hM' M'
  refine ev_if_ne (tgt := 11) dX8_rack_5 (by decide) (by omega) (fun hb5 => ?_) (fun hb5 => ?_)
  · have g2 := hv2.mp (by omega)
    refine ev_iload_n dX8_rack_11 rfl ?_
    refine ev_calls (c_isKind hy M) dX8_rack_12 tX8_isKind.1 kX8_146 tX8_isKind.2.1 tX8_isKind.2.2 ⟨⟨Nat.le_of_ble_eq_true rfl, Nat.le_of_ble_eq_true rfl⟩, Nat.le_of_ble_eq_true rfl, Nat.le_of_ble_eq_true rfl⟩ rfl (Nat.le_of_ble_eq_true rfl) ?_
    rintro r K' M' P' ⟨rfl, rfl, ⟨v12, rfl, hw12, hv12⟩, hM'⟩
    rw [hM']
    clear hM' M'
    refine ev_if_ne (tgt := 21) dX8_rack_15 (by decide) (by omega) (fun hb15 => ?_) (fun hb15 => ?_)
    · have g12 := hv12.mp (by omega)
      have hk := hC.rk y (by omega) (by omega)
      have hb := hC.b9 x (by omega) (by omega)
      simp only [Nat.reduceAdd] at hb
      first | refine ev_aload_n dX8_rack_21 rfl ?_ | refine ev_aloadX_n dX8_rack_21 rfl ?_
      refine ev_getR dX8_rack_22 fX8_40 rfl (by first | rfl | assumption) (by first | rfl | assumption) ?_
      refine ev_getR dX8_rack_25 fX8_216 rfl (by first | rfl | assumption) (by first | rfl | assumption) ?_
      refine ev_iload_n dX8_rack_28 rfl ?_
      refine ev_iaload dX8_rack_29 (by first | rfl | assumption) (by omega) (by omega) (by decide) ?_
      refine ev_iconst dX8_rack_30 ?_
      refine ev_icmp_lt (tgt := 37) dX8_rack_31 (by decide) (by omega) (by omega) (fun hb31 => ?_) (fun hb31 => ?_)
      · first | refine ev_aload_n dX8_rack_37 rfl ?_ | refine ev_aloadX_n dX8_rack_37 rfl ?_
        refine ev_getR dX8_rack_38 fX8_26 rfl (by first | rfl | assumption) (by first | rfl | assumption) ?_
        refine ev_getR dX8_rack_41 fX8_110 rfl (by first | rfl | assumption) (by first | rfl | assumption) ?_
        refine ev_iload_n dX8_rack_44 rfl ?_
        refine ev_iaload dX8_rack_45 (by first | rfl | assumption) (by omega) (by omega) (by decide) ?_
        refine ev_iload_n dX8_rack_46 rfl ?_
        refine ev_calls (c_isSuch (by omega) hy M) dX8_rack_47 tX8_isSuch.1 kX8_149 tX8_isSuch.2.1 tX8_isSuch.2.2 ⟨⟨Nat.le_of_ble_eq_true rfl, Nat.le_of_ble_eq_true rfl⟩, Nat.le_of_ble_eq_true rfl, Nat.le_of_ble_eq_true rfl⟩ rfl (Nat.le_of_ble_eq_true rfl) ?_
        rintro r K' M' P' ⟨rfl, rfl, ⟨v47, rfl, hw47, hv47⟩, hM'⟩
        rw [hM']
        clear hM' M'
        refine ev_if_ne (tgt := 55) dX8_rack_50 (by decide) (by omega) (fun hb50 => ?_) (fun hb50 => ?_)
        · have g47 := hv47.mp (by omega)
          first | refine ev_aload_n dX8_rack_55 rfl ?_ | refine ev_aloadX_n dX8_rack_55 rfl ?_
          refine ev_getR dX8_rack_56 fX8_40 rfl (by first | rfl | assumption) (by first | rfl | assumption) ?_
          refine ev_iload_n dX8_rack_59 rfl ?_
          refine ev_iload_n dX8_rack_60 rfl ?_
          refine ev_callv (ci := 2) (c_lay M (by omega) (by omega) (by omega) (by omega)) dX8_rack_61 tX2_lay.1 kX8_219 tX2_lay.2.1 tX2_lay.2.2.1 rfl (by first | rfl | assumption) tX2_lay.2.2.2 ⟨⟨Nat.le_of_ble_eq_true rfl, Nat.le_of_ble_eq_true rfl⟩, Nat.le_of_ble_eq_true rfl, Nat.le_of_ble_eq_true rfl⟩ rfl (Nat.le_of_ble_eq_true rfl) ?_
          rintro r K' M' P' ⟨rfl, rfl, rfl, hM'⟩
          rw [hM']
          clear hM' M'
          exact ev_ireturn dX8_rack_64 ⟨_, rfl, rfl⟩ (rz (Or.inr (Or.inr (Or.inr (Or.inr ⟨by omega, by omega, by omega, g47, rfl, rfl⟩)))))
        · have g47 := (not_congr hv47).mp (by omega)
          refine ev_iconst dX8_rack_53 ?_
          exact ev_ireturn dX8_rack_54 ⟨_, rfl, rfl⟩ (rz (Or.inr (Or.inr (Or.inr (Or.inl ⟨by omega, by omega, by omega, g47, rfl, rfl⟩)))))
      · refine ev_bipush dX8_rack_34 ?_
        exact ev_ireturn dX8_rack_36 ⟨_, rfl, rfl⟩ (rz (Or.inr (Or.inr (Or.inl ⟨by omega, by omega, by omega, rfl, rfl⟩))))
    · have g12 := (not_congr hv12).mp (by omega)
      refine ev_bipush dX8_rack_18 ?_
      exact ev_ireturn dX8_rack_20 ⟨_, rfl, rfl⟩ (rz (Or.inr (Or.inl ⟨by omega, by omega, rfl, rfl⟩)))
  · have g2 := (not_congr hv2).mp (by omega)
    refine ev_bipush dX8_rack_8 ?_
    exact ev_ireturn dX8_rack_10 ⟨_, rfl, rfl⟩ (rz (Or.inl ⟨by omega, rfl, rfl⟩))
theorem c_see {n : Nat} {x y z : Int} (hx : inR x) (hy : inR y) (hz : z = 0 ∨ z = 1) (M : Mm) (hC : CI M n) : Cm mX8_see [vR 0, vI x, vI y, vI z] M (fun r M' => ((x < 0 ∨ n ≤ x) ∧ r = some (vI (-101)) ∧ M' = M) ∨ ((0 ≤ x ∧ x < n) ∧ (y < 0 ∨ 4 ≤ y) ∧ r = some (vI (-102)) ∧ M' = M) ∨ ((0 ≤ x ∧ x < n) ∧ (0 ≤ y ∧ y < 4) ∧ M 40 2 = 6 ∧ r = some (vI (-104)) ∧ M' = M) ∨ ((0 ≤ x ∧ x < n) ∧ (0 ≤ y ∧ y < 4) ∧ M 40 2 < 6 ∧ r = some (vI (M 40 2 + 1)) ∧ M' = rwc (rwc (rwc M 41 (up1 (M 41) (M 40 2) x)) 42 (up1 (M 42) (M 40 2) (srtV y z))) 40 (up1 (M 40) 2 (M 40 2 + 1)))) := by
  have hs := hC.sz
  have h6 := hC.n6
  have s0 := hC.sn0
  have s1 := hC.sn1
  refine cm_of (by decide +kernel) (fun _ => trivial) (Nat.le_of_ble_eq_true rfl) ?_
  first | refine ev_aload_n dX8_see_0 rfl ?_ | refine ev_aloadX_n dX8_see_0 rfl ?_
  refine ev_iload_n dX8_see_1 rfl ?_
  refine ev_callv (ci := 8) (c_isStep hx M (by omega)) dX8_see_2 tX8_isStep.1 kX8_106 tX8_isStep.2.1 tX8_isStep.2.2.1 rfl (by first | rfl | assumption) tX8_isStep.2.2.2 ⟨⟨Nat.le_of_ble_eq_true rfl, Nat.le_of_ble_eq_true rfl⟩, Nat.le_of_ble_eq_true rfl, Nat.le_of_ble_eq_true rfl⟩ rfl (Nat.le_of_ble_eq_true rfl) ?_
  rintro r K' M' P' ⟨rfl, rfl, ⟨v2, rfl, hw2, hv2⟩, hM'⟩
  rw [hM']
  clear hM' M'
  refine ev_if_ne (tgt := 11) dX8_see_5 (by decide) (by omega) (fun hb5 => ?_) (fun hb5 => ?_)
  · have g2 := hv2.mp (by omega)
    refine ev_iload_n dX8_see_11 rfl ?_
    refine ev_if_lt (tgt := 20) dX8_see_12 (by decide) (by omega) (fun hb12 => ?_) (fun hb12 => ?_)
    · refine ev_bipush dX8_see_20 ?_
      exact ev_ireturn dX8_see_22 ⟨_, rfl, rfl⟩ (rz (Or.inr (Or.inl ⟨by omega, by omega, rfl, rfl⟩)))
    · refine ev_iload_n dX8_see_15 rfl ?_
      refine ev_iconst dX8_see_16 ?_
      refine ev_icmp_lt (tgt := 23) dX8_see_17 (by decide) (by omega) (by omega) (fun hb17 => ?_) (fun hb17 => ?_)
      · first | refine ev_aload_n dX8_see_23 rfl ?_ | refine ev_aloadX_n dX8_see_23 rfl ?_
        refine ev_getR dX8_see_24 fX8_47 rfl (by first | rfl | assumption) (by first | rfl | assumption) ?_
        refine ev_gI 2 dX8_see_27 fX8_101 rfl (by first | rfl | assumption) rfl ?_
        refine ev_bipush dX8_see_30 ?_
        refine ev_icmp_lt (tgt := 38) dX8_see_32 (by decide) (by omega) (by omega) (fun hb32 => ?_) (fun hb32 => ?_)
        · first | refine ev_aload_n dX8_see_38 rfl ?_ | refine ev_aloadX_n dX8_see_38 rfl ?_
          refine ev_getR dX8_see_39 fX8_47 rfl (by first | rfl | assumption) (by first | rfl | assumption) ?_
          refine ev_iload_n dX8_see_42 rfl ?_
          refine ev_iload_n dX8_see_43 rfl ?_
          refine ev_iload_n dX8_see_44 rfl ?_
          refine ev_callv (ci := 5) (c_seAppend M (by omega) (by omega) (by omega) (by omega) (by omega)) dX8_see_45 tX5_append.1 kX8_225 tX5_append.2.1 tX5_append.2.2.1 rfl (by first | rfl | assumption) tX5_append.2.2.2 ⟨⟨Nat.le_of_ble_eq_true rfl, Nat.le_of_ble_eq_true rfl⟩, Nat.le_of_ble_eq_true rfl, Nat.le_of_ble_eq_true rfl⟩ rfl (Nat.le_of_ble_eq_true rfl) ?_
          rintro r K' M' P' ⟨rfl, rfl, rfl, hM'⟩
          rw [hM']
          clear hM' M'
          first | refine ev_aload_n dX8_see_48 rfl ?_ | refine ev_aloadX_n dX8_see_48 rfl ?_
          refine ev_getR dX8_see_49 fX8_47 rfl (by first | rfl | assumption) (by first | rfl | assumption) ?_
          refine ev_gI 2 dX8_see_52 fX8_101 rfl (by first | rfl | assumption) rfl ?_
          simp only [rwc_at, up1_s]
          exact ev_ireturn dX8_see_55 ⟨_, rfl, rfl⟩ (rz (Or.inr (Or.inr (Or.inr ⟨by omega, by omega, by omega, rfl, rfl⟩))))
        · refine ev_bipush dX8_see_35 ?_
          exact ev_ireturn dX8_see_37 ⟨_, rfl, rfl⟩ (rz (Or.inr (Or.inr (Or.inl ⟨by omega, by omega, by omega, rfl, rfl⟩))))
      · refine ev_bipush dX8_see_20 ?_
        exact ev_ireturn dX8_see_22 ⟨_, rfl, rfl⟩ (rz (Or.inr (Or.inl ⟨by omega, by omega, rfl, rfl⟩)))
  · have g2 := (not_congr hv2).mp (by omega)
    refine ev_bipush dX8_see_8 ?_
    exact ev_ireturn dX8_see_10 ⟨_, rfl, rfl⟩ (rz (Or.inl ⟨by omega, rfl, rfl⟩))
