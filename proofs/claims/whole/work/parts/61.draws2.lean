/-! ===== programs by a seed: the reference ===== -/
def sdK (X : Mm) (z : Int) : Mm := upM X 54 22 z
theorem sdK_sdK (X : Mm) (a b : Int) : sdK (sdK X a) b = sdK X b := by
  unfold sdK
  rw [upM_rw (upM X 54 22 a), upM_rw X, upM_rw X, rwc_rwc, rwc_at]
  congr 1
  funext j
  unfold up1
  split <;> rfl
theorem sdK_0 (X : Mm) (a : Int) : sdK X a 54 22 = a := upM_s _ _ _ _
theorem sdK_54 {X : Mm} {a j : Int} (h : j ≠ 22) : sdK X a 54 j = X 54 j := upM_n (Or.inr h)
theorem sdK_o {X : Mm} {a : Int} {q : Nat} (h : q ≠ 54) : sdK X a q = X q := upM_o h
theorem sdK_rw {X : Mm} {a : Int} {f : Int → Int} : rwc (sdK X a) 58 f = sdK (rwc X 58 f) a := by
  unfold sdK
  rw [upM_rw, upM_rw, rwc_comm (show (54 : Nat) ≠ 58 by decide), rwc_ne (show (54 : Nat) ≠ 58 by decide)]
theorem k_draw {q z : Int} (X : Mm) (hq : 0 < q) (hq2 : q ≤ 100) (h : 0 ≤ z) (h2 : z ≤ 2147483647) : Cm mX9_draw [vR 54, vI q] (sdK X z) (fun r M' => r = some (vI (drV z q)) ∧ M' = sdK X (sdN z)) := by
  obtain ⟨r1, r2⟩ := sdN_rng h h2
  have e := sdK_0 X z
  have es : andL (1103515245 * z + 12345) 2147483647 = sdN z := rfl
  have e2 : ∀ w, upM (sdK X z) 54 22 w = sdK X w := fun w => sdK_sdK X z w
  refine cm_of (by decide +kernel) (fun _ => trivial) (Nat.le_of_ble_eq_true rfl) ?_
  first | refine ev_aload_n dX9_draw_0 rfl ?_ | refine ev_aloadX_n dX9_draw_0 rfl ?_
  refine ev_ldc2 (z := 1103515245) dX9_draw_1 jX9_302 (by decide) ?_
  first | refine ev_aload_n dX9_draw_4 rfl ?_ | refine ev_aloadX_n dX9_draw_4 rfl ?_
  refine ev_gI 22 dX9_draw_5 fX9_304 rfl (by first | rfl | assumption) rfl ?_
  rw [e]
  refine ev_i2l dX9_draw_8 (by omega) ?_
  refine ev_lmul dX9_draw_9 ?_
  refine ev_ldc2 (z := 12345) dX9_draw_10 jX9_307 (by decide) ?_
  refine ev_ladd dX9_draw_13 ?_
  refine ev_ldc2 (z := 2147483647) dX9_draw_14 jX9_309 (by decide) ?_
  refine ev_land dX9_draw_17 ?_
  rw [es]
  refine ev_l2i dX9_draw_18 ?_
  refine ev_pI 22 dX9_draw_19 sX9_304 rfl (by first | rfl | assumption) rfl ?_
  rw [e2]
  first | refine ev_aload_n dX9_draw_22 rfl ?_ | refine ev_aloadX_n dX9_draw_22 rfl ?_
  refine ev_gI 22 dX9_draw_23 fX9_304 rfl (by first | rfl | assumption) rfl ?_
  rw [sdK_0]
  refine ev_ldcw (z := 65536) dX9_draw_26 iX9_311 (by decide) ?_
  refine ev_idiv dX9_draw_29 (by omega) (by omega) (by omega) (by omega) ?_
  rw [Int.tdiv_eq_ediv_of_nonneg r1]
  refine ev_iload_n dX9_draw_30 rfl ?_
  refine ev_irem dX9_draw_31 (by omega) (by omega) (by omega) (by omega) ?_
  rw [tmod_nn (by omega)]
  exact ev_ireturn dX9_draw_32 ⟨_, rfl, rfl⟩ (rz ⟨rfl, rfl⟩)
theorem k_drawTest {s : Int} (h : 0 ≤ s) (h2 : s ≤ 2147483647) (X : Mm) (hs : sgA X) {S : PS} (hS : Rw (X 58) 7 S) : Cm mX9_drawTest [vR 54] (sdK X s) (fun r M' => r = none ∧ M' = sdK (rwc X 58 (setS (X 58) 7 (fun p => S p ∧ tsP s p))) (sdI s 3)) := by
  have r1 := sdN_rng h h2
  have r2 := sdN_rng r1.1 r1.2
  have d1 := drW_rng (q := 6) (by omega) s
  have d2 := drW_rng (q := 6) (by omega) (sdN s)
  have d3 := drW_rng (q := 12) (by omega) (sdN (sdN s))
  have k1 := k_draw (q := 6) X (by omega) (by omega) h h2
  have k2 := k_draw (q := 6) X (by omega) (by omega) r1.1 r1.2
  have k3 := k_draw (q := 12) X (by omega) (by omega) r2.1 r2.2
  have et : ∀ p, tsP s p ↔ pv p (drV s 6) + pv p (drV (sdN s) 6) ≤ drV (sdN (sdN s)) 12 - 4 := fun p => Iff.rfl
  have e3 : sdI s 3 = sdN (sdN (sdN s)) := rfl
  rw [e3]
  generalize drV s 6 = a at *
  generalize drV (sdN s) 6 = b at *
  generalize drV (sdN (sdN s)) 12 = z at *
  generalize sdN (sdN (sdN s)) = s3 at *
  have fin : Ev mX9_drawTest 26 [some (vR 54), some (vI a), some (vI b), some (vI (z - 4)), some (vI 0), none] [] KK (sdK X s3) PP 0 0 (Rz mX9_drawTest (fun r M' => r = none ∧ M' = sdK (rwc X 58 (setS (X 58) 7 (fun p => S p ∧ tsP s p))) s3)) := by
    refine ev_to (L' := [some (vR 54), some (vI a), some (vI b), some (vI (z - 4)), some (vI ((0 : Nat) : Int)), none]) (S' := []) (M' := sdK (rwc X 58 (ptS (X 58) 7 (fun p => S p ∧ tsP s p) (0 : Nat))) s3) (k' := 0) (n' := 0) ?_ (by repeat (first | exact trivial | refine ⟨rfl, ?_⟩)) (by show sdK X s3 = sdK (rwc X 58 (ptS (X 58) 7 (fun p => S p ∧ tsP s p) 0)) s3; rw [ptS_0, rwc_self]) rfl rfl rfl
    refine up_loop (P := fun i => Ev mX9_drawTest 26 [some (vR 54), some (vI a), some (vI b), some (vI (z - 4)), some (vI (i : Int)), none] [] KK (sdK (rwc X 58 (ptS (X 58) 7 (fun p => S p ∧ tsP s p) i)) s3) PP 0 0 _) 4913 ?_ ?_
    · rw [ptS_e]
      refine ev_iload dX9_drawTest_26 rfl ?_
      refine ev_sipush dX9_drawTest_28 ?_
      refine ev_icmp_ge (tgt := 90) dX9_drawTest_31 (by decide) (by omega) (by omega) (fun hb31 => ?_) (fun hb31 => ?_)
      · exact ev_return dX9_drawTest_90 rfl (rz ⟨rfl, rfl⟩)
      · omega
    · intro i hi hP
      have hip : inP (i : Int) := by omega
      have ei : (34391 : Int) + (i : Int) = 4913 * ((7 : Nat) : Int) + (i : Int) := by omega
      have e : ptS (X 58) 7 (fun p => S p ∧ tsP s p) i (4913 * ((7 : Nat) : Int) + (i : Int)) = ind S i := by
        unfold ptS
        rw [if_neg (by omega)]
        exact hS i hip
      have e58 : sdK (rwc X 58 (ptS (X 58) 7 (fun p => S p ∧ tsP s p) i)) s3 58 = ptS (X 58) 7 (fun p => S p ∧ tsP s p) i := by rw [sdK_o (by decide), rwc_at]
      have sgX : sgA (sdK (rwc X 58 (ptS (X 58) 7 (fun p => S p ∧ tsP s p) i)) s3) := fun p q => by rw [sdK_o (by decide), rwc_ne (by decide)]; exact hs p q
      have hii := ind_iff S (i : Int)
      have h01 := ind_01 S (i : Int)
      have hte := et (i : Int)
      have pa := pv_rng hip a
      have pb := pv_rng hip b
      have fin2 : ∀ v : Int, v = ind (fun p => S p ∧ tsP s p) (i : Int) → upM (sdK (rwc X 58 (ptS (X 58) 7 (fun p => S p ∧ tsP s p) i)) s3) 58 (4913 * ((7 : Nat) : Int) + (i : Int)) v = sdK (rwc X 58 (ptS (X 58) 7 (fun p => S p ∧ tsP s p) (i + 1))) s3 := by
        intro v hv
        rw [upM_rw, e58, sdK_rw, rwc_rwc]
        rw [ptS_s _ _ _ _ hv]
      clear et
      generalize sdK (rwc X 58 (ptS (X 58) 7 (fun p => S p ∧ tsP s p) i)) s3 = Y at *
      refine ev_iload dX9_drawTest_26 rfl ?_
      refine ev_sipush dX9_drawTest_28 ?_
      refine ev_icmp_ge (tgt := 90) dX9_drawTest_31 (by decide) (by omega) (by omega) (fun hb31 => ?_) (fun hb31 => ?_)
      · omega
      · refine ev_ldcw (z := 34391) dX9_drawTest_34 iX9_315 (by decide) ?_
        refine ev_iload dX9_drawTest_37 rfl ?_
        refine ev_iadd dX9_drawTest_39 ?_
        rw [ei]
        refine ev_istore dX9_drawTest_40 (by decide) ?_
        first | refine ev_aload_n dX9_drawTest_42 rfl ?_ | refine ev_aloadX_n dX9_drawTest_42 rfl ?_
        refine ev_getR dX9_drawTest_43 fX9_20 rfl (by first | rfl | assumption) (by first | rfl | assumption) ?_
        refine ev_iload dX9_drawTest_46 rfl ?_
        first | refine ev_aload_n dX9_drawTest_48 rfl ?_ | refine ev_aloadX_n dX9_drawTest_48 rfl ?_
        refine ev_getR dX9_drawTest_49 fX9_20 rfl (by first | rfl | assumption) (by first | rfl | assumption) ?_
        refine ev_iload dX9_drawTest_52 rfl ?_
        refine ev_iaload dX9_drawTest_54 (by first | rfl | assumption) (by omega) (by omega) (by decide) ?_
        rw [e58, e]
        refine ev_iconst dX9_drawTest_55 ?_
        refine ev_icmp_ne (tgt := 82) dX9_drawTest_56 (by decide) (by omega) (by omega) (fun hb56 => ?_) (fun hb56 => ?_)
        · refine ev_iconst dX9_drawTest_82 ?_
          refine ev_iastore dX9_drawTest_83 (by first | rfl | assumption) (by omega) (by omega) (by decide) ?_
          refine ev_iinc dX9_drawTest_84 rfl (by decide) ?_
          refine ev_goto (tgt := 26) dX9_drawTest_87 (by decide) ?_
          refine ev_to hP (by repeat (first | exact trivial | refine ⟨rfl, ?_⟩)) (fin2 _ ?_) rfl rfl rfl
          first | (rw [ind_1 ⟨hii.mp (by omega), hte.mpr (by omega)⟩]) | (rw [ind_0 (fun y => by have := hii.mpr y.1; omega)]) | (rw [ind_0 (fun y => by have := hte.mp y.2; omega)])
        · first | refine ev_aload_n dX9_drawTest_59 rfl ?_ | refine ev_aloadX_n dX9_drawTest_59 rfl ?_
          refine ev_iload dX9_drawTest_60 rfl ?_
          refine ev_iload_n dX9_drawTest_62 rfl ?_
          refine ev_callv (ci := 9) (k_signed hip (by omega) Y sgX) dX9_drawTest_63 tX9_signed.1 kX9_152 tX9_signed.2.1 tX9_signed.2.2.1 rfl (by first | rfl | assumption) tX9_signed.2.2.2 ⟨⟨Nat.le_of_ble_eq_true rfl, Nat.le_of_ble_eq_true rfl⟩, Nat.le_of_ble_eq_true rfl, Nat.le_of_ble_eq_true rfl⟩ rfl (Nat.le_of_ble_eq_true rfl) ?_
          rintro r K' M' P' ⟨rfl, rfl, rfl, hM'⟩
          rw [hM']
          clear hM' M'
          first | refine ev_aload_n dX9_drawTest_66 rfl ?_ | refine ev_aloadX_n dX9_drawTest_66 rfl ?_
          refine ev_iload dX9_drawTest_67 rfl ?_
          refine ev_iload_n dX9_drawTest_69 rfl ?_
          refine ev_callv (ci := 9) (k_signed hip (by omega) Y sgX) dX9_drawTest_70 tX9_signed.1 kX9_152 tX9_signed.2.1 tX9_signed.2.2.1 rfl (by first | rfl | assumption) tX9_signed.2.2.2 ⟨⟨Nat.le_of_ble_eq_true rfl, Nat.le_of_ble_eq_true rfl⟩, Nat.le_of_ble_eq_true rfl, Nat.le_of_ble_eq_true rfl⟩ rfl (Nat.le_of_ble_eq_true rfl) ?_
          rintro r K' M' P' ⟨rfl, rfl, rfl, hM'⟩
          rw [hM']
          clear hM' M'
          refine ev_iadd dX9_drawTest_73 ?_
          refine ev_iload_n dX9_drawTest_74 rfl ?_
          refine ev_icmp_gt (tgt := 82) dX9_drawTest_75 (by decide) (by omega) (by omega) (fun hb75 => ?_) (fun hb75 => ?_)
          · refine ev_iconst dX9_drawTest_82 ?_
            refine ev_iastore dX9_drawTest_83 (by first | rfl | assumption) (by omega) (by omega) (by decide) ?_
            refine ev_iinc dX9_drawTest_84 rfl (by decide) ?_
            refine ev_goto (tgt := 26) dX9_drawTest_87 (by decide) ?_
            refine ev_to hP (by repeat (first | exact trivial | refine ⟨rfl, ?_⟩)) (fin2 _ ?_) rfl rfl rfl
            first | (rw [ind_1 ⟨hii.mp (by omega), hte.mpr (by omega)⟩]) | (rw [ind_0 (fun y => by have := hii.mpr y.1; omega)]) | (rw [ind_0 (fun y => by have := hte.mp y.2; omega)])
          · refine ev_iconst dX9_drawTest_78 ?_
            refine ev_goto (tgt := 83) dX9_drawTest_79 (by decide) ?_
            refine ev_iastore dX9_drawTest_83 (by first | rfl | assumption) (by omega) (by omega) (by decide) ?_
            refine ev_iinc dX9_drawTest_84 rfl (by decide) ?_
            refine ev_goto (tgt := 26) dX9_drawTest_87 (by decide) ?_
            refine ev_to hP (by repeat (first | exact trivial | refine ⟨rfl, ?_⟩)) (fin2 _ ?_) rfl rfl rfl
            first | (rw [ind_1 ⟨hii.mp (by omega), hte.mpr (by omega)⟩]) | (rw [ind_0 (fun y => by have := hii.mpr y.1; omega)]) | (rw [ind_0 (fun y => by have := hte.mp y.2; omega)])
  refine cm_of (by decide +kernel) (fun _ => trivial) (Nat.le_of_ble_eq_true rfl) ?_
  first | refine ev_aload_n dX9_drawTest_0 rfl ?_ | refine ev_aloadX_n dX9_drawTest_0 rfl ?_
  refine ev_bipush dX9_drawTest_1 ?_
  refine ev_callv (ci := 9) k1 dX9_drawTest_3 tX9_draw.1 kX9_312 tX9_draw.2.1 tX9_draw.2.2.1 rfl (by first | rfl | assumption) tX9_draw.2.2.2 ⟨⟨Nat.le_of_ble_eq_true rfl, Nat.le_of_ble_eq_true rfl⟩, Nat.le_of_ble_eq_true rfl, Nat.le_of_ble_eq_true rfl⟩ rfl (Nat.le_of_ble_eq_true rfl) ?_
  rintro r K' M' P' ⟨rfl, rfl, rfl, hM'⟩
  rw [hM']
  clear hM' M'
  refine ev_istore_n dX9_drawTest_6 (by decide) ?_
  first | refine ev_aload_n dX9_drawTest_7 rfl ?_ | refine ev_aloadX_n dX9_drawTest_7 rfl ?_
  refine ev_bipush dX9_drawTest_8 ?_
  refine ev_callv (ci := 9) k2 dX9_drawTest_10 tX9_draw.1 kX9_312 tX9_draw.2.1 tX9_draw.2.2.1 rfl (by first | rfl | assumption) tX9_draw.2.2.2 ⟨⟨Nat.le_of_ble_eq_true rfl, Nat.le_of_ble_eq_true rfl⟩, Nat.le_of_ble_eq_true rfl, Nat.le_of_ble_eq_true rfl⟩ rfl (Nat.le_of_ble_eq_true rfl) ?_
  rintro r K' M' P' ⟨rfl, rfl, rfl, hM'⟩
  rw [hM']
  clear hM' M'
  refine ev_istore_n dX9_drawTest_13 (by decide) ?_
  first | refine ev_aload_n dX9_drawTest_14 rfl ?_ | refine ev_aloadX_n dX9_drawTest_14 rfl ?_
  refine ev_bipush dX9_drawTest_15 ?_
  refine ev_callv (ci := 9) k3 dX9_drawTest_17 tX9_draw.1 kX9_312 tX9_draw.2.1 tX9_draw.2.2.1 rfl (by first | rfl | assumption) tX9_draw.2.2.2 ⟨⟨Nat.le_of_ble_eq_true rfl, Nat.le_of_ble_eq_true rfl⟩, Nat.le_of_ble_eq_true rfl, Nat.le_of_ble_eq_true rfl⟩ rfl (Nat.le_of_ble_eq_true rfl) ?_
  rintro r K' M' P' ⟨rfl, rfl, rfl, hM'⟩
  rw [hM']
  clear hM' M'
  refine ev_iconst dX9_drawTest_20 ?_
  refine ev_isub dX9_drawTest_21 ?_
  refine ev_istore_n dX9_drawTest_22 (by decide) ?_
  refine ev_iconst dX9_drawTest_23 ?_
  refine ev_istore dX9_drawTest_24 (by decide) ?_
  exact ev_to fin (by repeat (first | exact trivial | refine ⟨rfl, ?_⟩)) rfl rfl rfl rfl
def FrW (M X : Mm) : Prop := (∀ j, j ≠ 22 → X 54 j = M 54 j) ∧ (∀ q, q ≠ 54 → q ≠ 58 → X q = M q) ∧ ∀ q W, q ≠ 7 → Rw (M 58) q W → Rw (X 58) q W
theorem FrW.rf {M : Mm} : FrW M M := ⟨fun _ _ => rfl, fun _ _ _ => rfl, fun _ _ _ h => h⟩
theorem FrW.k {M X : Mm} (h : FrW M X) (z : Int) : FrW M (sdK X z) := ⟨fun j hj => by rw [sdK_54 hj]; exact h.1 j hj, fun q q1 q2 => by rw [sdK_o q1]; exact h.2.1 q q1 q2, fun q W hq hW => by rw [sdK_o (by decide)]; exact h.2.2 q W hq hW⟩
theorem FrW.s {M X : Mm} (h : FrW M X) (S : PS) : FrW M (rwc X 58 (setS (X 58) 7 S)) := ⟨fun j hj => by rw [rwc_ne (by decide)]; exact h.1 j hj, fun q q1 q2 => by rw [rwc_ne q2]; exact h.2.1 q q1 q2, fun q W hq hW => by rw [rwc_at]; exact setS_ne (h.2.2 q W hq hW) hq⟩
theorem FrW.sg {M X : Mm} (h : FrW M X) (hs : sgA M) : sgA X := fun p a => by rw [h.2.1 59 (by decide) (by decide)]; exact hs p a
theorem KI.dw {M X : Mm} {n : Nat} (h : KI M n) (f : FrW M X) : KI X n := by
  have h6 := h.n6
  have g : ∀ j, j ≠ 22 → X 54 j = M 54 j := f.1
  have e57 : X 57 = M 57 := f.2.1 57 (by decide) (by decide)
  apply KI.mk
  case pg0 => rw [g 1 (by decide)]; exact h.pg0
  case pg1 => rw [g 1 (by decide)]; exact h.pg1
  case pgl => rw [g 1 (by decide), f.2.1 55 (by decide) (by decide)]; exact h.pgl
  case sz => rw [g 8 (by decide)]; exact h.sz
  case n6 => exact h.n6
  case ok => rw [e57]; exact h.ok
  case bd => rw [e57]; exact h.bd
  case ol => rw [g 11 (by decide)]; exact h.ol
  case fr =>
    rw [g 11 (by decide)]
    intro a b
    obtain ⟨A, r, h1, h2, h3, h4, h5⟩ := h.fr a b
    refine ⟨A, r, by rw [e57]; exact h1, by rw [g 17 (by decide)]; exact h2, h3, h4, fun q hq => ?_⟩
    rw [f.2.1 63 (by decide) (by decide)]
    exact ⟨f.2.2 q _ (by omega) (h5 q hq).1, (h5 q hq).2⟩
  case sg => exact f.sg h.sg
  case rkb => rw [f.2.1 64 (by decide) (by decide)]; exact h.rkb
  case sn0 => rw [g 20 (by decide)]; exact h.sn0
  case sn1 => rw [g 20 (by decide)]; exact h.sn1
  case snb => rw [f.2.1 65 (by decide) (by decide)]; exact h.snb
  case pr => rw [g 9 (by decide)]; exact h.pr
  case kp => rw [g 23 (by decide), g 9 (by decide)]; exact h.kp
theorem kdw_in {s T w t0 : Int} (h : 0 ≤ s) (h2 : s ≤ 2147483647) {M X : Mm} (hs : sgA M) (hX : FrW M X) {L4 L5 L6 : Int} {Φ : Ps} (hE : ∀ Y, FrW M Y → Rw (Y 58) 7 (tS s 4) → Ev mX9_drawn 99 [some (vR 54), some (vI T), some (vI t0), some (vI w), some (vI L4), some (vI L5), some (vI L6), none] [] KK (sdK Y (sdI s 12)) PP 0 0 Φ) : Ev mX9_drawn 54 [some (vR 54), some (vI T), some (vI t0), some (vI w), some (vI L4), some (vI L5), some (vI L6), some (vI 0)] [] KK (sdK X s) PP 0 0 Φ := by
  have lp4 : ∀ Y, FrW M Y → Rw (Y 58) 7 (tS s 0) → Ev mX9_drawn 83 [some (vR 54), some (vI T), some (vI t0), some (vI w), some (vI L4), some (vI L5), some (vI L6), some (vI ((0 : Nat) : Int))] [] KK (sdK Y (sdI s (3 * 0))) PP 0 0 Φ := by
    refine up_loop (P := fun i => ∀ Y, FrW M Y → Rw (Y 58) 7 (tS s i) → Ev mX9_drawn 83 [some (vR 54), some (vI T), some (vI t0), some (vI w), some (vI L4), some (vI L5), some (vI L6), some (vI (i : Int))] [] KK (sdK Y (sdI s (3 * i))) PP 0 0 _) 4 ?_ ?_
    · intro Y y1 y2
      have h4 := hE Y y1 y2
      refine ev_iload dX9_drawn_83 rfl ?_
      refine ev_iconst dX9_drawn_85 ?_
      refine ev_icmp_ge (tgt := 99) dX9_drawn_86 (by decide) (by omega) (by omega) (fun hb86 => ?_) (fun hb86 => ?_)
      · exact ev_to h4 (by repeat (first | exact trivial | refine ⟨rfl, ?_⟩)) rfl rfl rfl rfl
      · omega
    · intro i hi hP Y y1 y2
      have r0 := sdI_rng h h2 (3 * i)
      have kt := k_drawTest r0.1 r0.2 Y (y1.sg hs) y2
      rw [sdI_add] at kt
      have fin := hP (rwc Y 58 (setS (Y 58) 7 (fun p => tS s i p ∧ tsP (sdI s (3 * i)) p))) (y1.s _) (by rw [rwc_at]; exact setS_at _ _ _)
      refine ev_iload dX9_drawn_83 rfl ?_
      refine ev_iconst dX9_drawn_85 ?_
      refine ev_icmp_ge (tgt := 99) dX9_drawn_86 (by decide) (by omega) (by omega) (fun hb86 => ?_) (fun hb86 => ?_)
      · omega
      · first | refine ev_aload_n dX9_drawn_89 rfl ?_ | refine ev_aloadX_n dX9_drawn_89 rfl ?_
        refine ev_callv (ci := 9) kt dX9_drawn_90 tX9_drawTest.1 kX9_316 tX9_drawTest.2.1 tX9_drawTest.2.2.1 rfl (by first | rfl | assumption) tX9_drawTest.2.2.2 ⟨⟨Nat.le_of_ble_eq_true rfl, Nat.le_of_ble_eq_true rfl⟩, Nat.le_of_ble_eq_true rfl, Nat.le_of_ble_eq_true rfl⟩ rfl (Nat.le_of_ble_eq_true rfl) ?_
        rintro r K' M' P' ⟨rfl, rfl, rfl, hM'⟩
        rw [hM']
        clear hM' M'
        refine ev_iinc dX9_drawn_93 rfl (by decide) ?_
        refine ev_goto (tgt := 83) dX9_drawn_96 (by decide) ?_
        exact ev_to fin (by repeat (first | exact trivial | refine ⟨rfl, ?_⟩)) rfl rfl rfl rfl
  refine ev_to (L' := [some (vR 54), some (vI T), some (vI t0), some (vI w), some (vI L4), some (vI L5), some (vI L6), some (vI ((0 : Nat) : Int))]) (S' := []) (M' := sdK (rwc X 58 (ptS (X 58) 7 (fun p => inP p) (0 : Nat))) s) (k' := 0) (n' := 0) ?_ (by repeat (first | exact trivial | refine ⟨rfl, ?_⟩)) (by show sdK X s = sdK (rwc X 58 (ptS (X 58) 7 (fun p => inP p) 0)) s; rw [ptS_0, rwc_self]) rfl rfl rfl
  refine up_loop (P := fun i => Ev mX9_drawn 54 [some (vR 54), some (vI T), some (vI t0), some (vI w), some (vI L4), some (vI L5), some (vI L6), some (vI (i : Int))] [] KK (sdK (rwc X 58 (ptS (X 58) 7 (fun p => inP p) i)) s) PP 0 0 _) 4913 ?_ ?_
  · rw [ptS_e]
    have h4 := lp4 (rwc X 58 (setS (X 58) 7 (fun p => inP p))) (hX.s _) (by rw [rwc_at]; exact setS_at _ _ _)
    refine ev_iload dX9_drawn_54 rfl ?_
    refine ev_sipush dX9_drawn_56 ?_
    refine ev_icmp_ge (tgt := 80) dX9_drawn_59 (by decide) (by omega) (by omega) (fun hb59 => ?_) (fun hb59 => ?_)
    · refine ev_iconst dX9_drawn_80 ?_
      refine ev_istore dX9_drawn_81 (by decide) ?_
      exact ev_to h4 (by repeat (first | exact trivial | refine ⟨rfl, ?_⟩)) rfl rfl rfl rfl
    · omega
  · intro i hi hP
    have hip : inP (i : Int) := by omega
    have ei : (34391 : Int) + (i : Int) = 4913 * ((7 : Nat) : Int) + (i : Int) := by omega
    refine ev_iload dX9_drawn_54 rfl ?_
    refine ev_sipush dX9_drawn_56 ?_
    refine ev_icmp_ge (tgt := 80) dX9_drawn_59 (by decide) (by omega) (by omega) (fun hb59 => ?_) (fun hb59 => ?_)
    · omega
    · first | refine ev_aload_n dX9_drawn_62 rfl ?_ | refine ev_aloadX_n dX9_drawn_62 rfl ?_
      refine ev_getR dX9_drawn_63 fX9_20 rfl (by first | rfl | assumption) (by first | rfl | assumption) ?_
      refine ev_ldcw (z := 34391) dX9_drawn_66 iX9_315 (by decide) ?_
      refine ev_iload dX9_drawn_69 rfl ?_
      refine ev_iadd dX9_drawn_71 ?_
      rw [ei]
      refine ev_iconst dX9_drawn_72 ?_
      refine ev_iastore dX9_drawn_73 (by first | rfl | assumption) (by omega) (by omega) (by decide) ?_
      refine ev_iinc dX9_drawn_74 rfl (by decide) ?_
      refine ev_goto (tgt := 54) dX9_drawn_77 (by decide) ?_
      refine ev_to hP (by repeat (first | exact trivial | refine ⟨rfl, ?_⟩)) ?_ rfl rfl rfl
      rw [upM_rw, sdK_o (by decide), rwc_at, sdK_rw, rwc_rwc, ptS_s _ _ _ _ (ind_1 hip).symm]
theorem k_drawn {n : Nat} {t s w : Int} (ht : inR t) (hs : inR s) (hw : inR w) (M : Mm) (hK : KI M n) : Cm mX9_drawn [vR 54, vI t, vI s, vI w] M (fun r M' => (¬ ((1 ≤ t ∧ t ≤ 8) ∧ 0 ≤ s ∧ (0 ≤ w ∧ w ≤ 2)) ∧ r = some (vI (-102)) ∧ M' = M) ∨ (((1 ≤ t ∧ t ≤ 8) ∧ 0 ≤ s ∧ (0 ≤ w ∧ w ≤ 2)) ∧ r = some (vI (dwV s w t.toNat)) ∧ FrW M M')) := by
  by_cases hg : (1 ≤ t ∧ t ≤ 8) ∧ 0 ≤ s ∧ (0 ≤ w ∧ w ≤ 2)
  case neg =>
    refine cm_of (by decide +kernel) (fun _ => trivial) (Nat.le_of_ble_eq_true rfl) ?_
    refine ev_iload_n dX9_drawn_0 rfl ?_
    refine ev_i2l dX9_drawn_1 (by omega) ?_
    refine ev_lconst (z := 1) dX9_drawn_2 ?_
    refine ev_ldc2 (z := 8) dX9_drawn_3 jX9_171 (by decide) ?_
    refine ev_calls (k_in (by omega) (by omega) (by omega) M) dX9_drawn_6 tX9_in.1 kX9_60 tX9_in.2.1 tX9_in.2.2 ⟨⟨Nat.le_of_ble_eq_true rfl, Nat.le_of_ble_eq_true rfl⟩, Nat.le_of_ble_eq_true rfl, Nat.le_of_ble_eq_true rfl⟩ rfl (Nat.le_of_ble_eq_true rfl) ?_
    rintro r K' M' P' ⟨rfl, rfl, ⟨v6, rfl, hw6, hv6⟩, hM'⟩
    rw [hM']
    clear hM' M'
    refine ev_if_eq (tgt := 28) dX9_drawn_9 (by decide) (by omega) (fun hb9 => ?_) (fun hb9 => ?_)
    · have g6 := (not_congr hv6).mp (by omega)
      refine ev_bipush dX9_drawn_28 ?_
      exact ev_ireturn dX9_drawn_30 ⟨_, rfl, rfl⟩ (rz (Or.inl ⟨hg, rfl, rfl⟩))
    · have g6 := hv6.mp (by omega)
      refine ev_iload_n dX9_drawn_12 rfl ?_
      refine ev_if_lt (tgt := 28) dX9_drawn_13 (by decide) (by omega) (fun hb13 => ?_) (fun hb13 => ?_)
      · refine ev_bipush dX9_drawn_28 ?_
        exact ev_ireturn dX9_drawn_30 ⟨_, rfl, rfl⟩ (rz (Or.inl ⟨hg, rfl, rfl⟩))
      · refine ev_iload_n dX9_drawn_16 rfl ?_
        refine ev_i2l dX9_drawn_17 (by omega) ?_
        refine ev_lconst (z := 0) dX9_drawn_18 ?_
        refine ev_ldc2 (z := 2) dX9_drawn_19 jX9_247 (by decide) ?_
        refine ev_calls (k_in (by omega) (by omega) (by omega) M) dX9_drawn_22 tX9_in.1 kX9_60 tX9_in.2.1 tX9_in.2.2 ⟨⟨Nat.le_of_ble_eq_true rfl, Nat.le_of_ble_eq_true rfl⟩, Nat.le_of_ble_eq_true rfl, Nat.le_of_ble_eq_true rfl⟩ rfl (Nat.le_of_ble_eq_true rfl) ?_
        rintro r K' M' P' ⟨rfl, rfl, ⟨v22, rfl, hw22, hv22⟩, hM'⟩
        rw [hM']
        clear hM' M'
        refine ev_if_ne (tgt := 31) dX9_drawn_25 (by decide) (by omega) (fun hb25 => ?_) (fun hb25 => ?_)
        · have g22 := hv22.mp (by omega)
          exact absurd ⟨by omega, by omega, by omega⟩ hg
        · have g22 := (not_congr hv22).mp (by omega)
          refine ev_bipush dX9_drawn_28 ?_
          exact ev_ireturn dX9_drawn_30 ⟨_, rfl, rfl⟩ (rz (Or.inl ⟨hg, rfl, rfl⟩))
  obtain ⟨⟨t1, t2⟩, s1, w1, w2⟩ := hg
  obtain ⟨T, rfl⟩ := Int.eq_ofNat_of_zero_le (show 0 ≤ t by omega)
  have lp : ∀ X, FrW M X → Ev mX9_drawn 45 [some (vR 54), some (vI (T : Int)), some (vI s), some (vI w), some (vI (dwE s 0)), some (vI (dwT s 0)), some (vI ((0 : Nat) : Int)), none] [] KK (sdK X (sdI s (12 * 0))) PP 0 0 (Rz mX9_drawn (fun r M' => (¬ ((1 ≤ (T : Int) ∧ (T : Int) ≤ 8) ∧ 0 ≤ s ∧ (0 ≤ w ∧ w ≤ 2)) ∧ r = some (vI (-102)) ∧ M' = M) ∨ (((1 ≤ (T : Int) ∧ (T : Int) ≤ 8) ∧ 0 ≤ s ∧ (0 ≤ w ∧ w ≤ 2)) ∧ r = some (vI (dwV s w (T : Int).toNat)) ∧ FrW M M'))) := by
    refine up_loop (P := fun i => ∀ X, FrW M X → Ev mX9_drawn 45 [some (vR 54), some (vI (T : Int)), some (vI s), some (vI w), some (vI (dwE s i)), some (vI (dwT s i)), some (vI (i : Int)), none] [] KK (sdK X (sdI s (12 * i))) PP 0 0 _) T ?_ ?_
    · intro X x3
      have eT : (T : Int).toNat = T := by omega
      rw [eT]
      have x1 := sdK_0 X (sdI s (12 * T))
      refine ev_iload dX9_drawn_45 rfl ?_
      refine ev_iload_n dX9_drawn_47 rfl ?_
      refine ev_icmp_ge (tgt := 135) dX9_drawn_48 (by decide) (by omega) (by omega) (fun hb48 => ?_) (fun hb48 => ?_)
      · refine ev_iload_n dX9_drawn_135 rfl ?_
        refine ev_if_ne (tgt := 144) dX9_drawn_136 (by decide) (by omega) (fun hb136 => ?_) (fun hb136 => ?_)
        · refine ev_iload_n dX9_drawn_144 rfl ?_
          refine ev_iconst dX9_drawn_145 ?_
          refine ev_icmp_ne (tgt := 154) dX9_drawn_146 (by decide) (by omega) (by omega) (fun hb146 => ?_) (fun hb146 => ?_)
          · first | refine ev_aload_n dX9_drawn_154 rfl ?_ | refine ev_aloadX_n dX9_drawn_154 rfl ?_
            refine ev_gI 22 dX9_drawn_155 fX9_304 rfl (by first | rfl | assumption) rfl ?_
            try rw [x1]
            exact ev_ireturn dX9_drawn_158 ⟨_, rfl, rfl⟩ (rz (Or.inr ⟨⟨⟨by omega, by omega⟩, by omega, by omega⟩, by unfold dwV; first | rw [if_pos (by omega)] | rw [if_neg (by omega), if_pos (by omega)] | rw [if_neg (by omega), if_neg (by omega)], x3.k _⟩))
          · refine ev_iload dX9_drawn_149 rfl ?_
            refine ev_goto (tgt := 158) dX9_drawn_151 (by decide) ?_
            try rw [x1]
            exact ev_ireturn dX9_drawn_158 ⟨_, rfl, rfl⟩ (rz (Or.inr ⟨⟨⟨by omega, by omega⟩, by omega, by omega⟩, by unfold dwV; first | rw [if_pos (by omega)] | rw [if_neg (by omega), if_pos (by omega)] | rw [if_neg (by omega), if_neg (by omega)], x3.k _⟩))
        · refine ev_iload dX9_drawn_139 rfl ?_
          refine ev_goto (tgt := 158) dX9_drawn_141 (by decide) ?_
          try rw [x1]
          exact ev_ireturn dX9_drawn_158 ⟨_, rfl, rfl⟩ (rz (Or.inr ⟨⟨⟨by omega, by omega⟩, by omega, by omega⟩, by unfold dwV; first | rw [if_pos (by omega)] | rw [if_neg (by omega), if_pos (by omega)] | rw [if_neg (by omega), if_neg (by omega)], x3.k _⟩))
      · omega
    · intro i hi hP X x3
      have r0 := sdI_rng s1 (by omega) (12 * i)
      have hE : ∀ Y, FrW M Y → Rw (Y 58) 7 (tS (sdI s (12 * i)) 4) → Ev mX9_drawn 99 [some (vR 54), some (vI (T : Int)), some (vI s), some (vI w), some (vI (dwE s i)), some (vI (dwT s i)), some (vI (i : Int)), none] [] KK (sdK Y (sdI (sdI s (12 * i)) 12)) PP 0 0 (Rz mX9_drawn (fun r M' => (¬ ((1 ≤ (T : Int) ∧ (T : Int) ≤ 8) ∧ 0 ≤ s ∧ (0 ≤ w ∧ w ≤ 2)) ∧ r = some (vI (-102)) ∧ M' = M) ∨ (((1 ≤ (T : Int) ∧ (T : Int) ≤ 8) ∧ 0 ≤ s ∧ (0 ≤ w ∧ w ≤ 2)) ∧ r = some (vI (dwV s w (T : Int).toNat)) ∧ FrW M M'))) := by
        intro Y y1 y2
        have hc := crd_rng (tS (sdI s (12 * i)) 4)
        have fin := hP Y y1
        rw [sdI_add]
        simp only [dwE, dwT] at fin
        have kp := k_pts (k := 7) (by omega) (sdK Y (sdI s (12 * i + 12))) (S := tS (sdI s (12 * i)) 4) (by rw [sdK_o (by decide)]; exact y2)
        generalize crd (tS (sdI s (12 * i)) 4) = cc at *
        first | refine ev_aload_n dX9_drawn_99 rfl ?_ | refine ev_aloadX_n dX9_drawn_99 rfl ?_
        refine ev_bipush dX9_drawn_100 ?_
        refine ev_callv (ci := 9) kp dX9_drawn_102 tX9_pointsIn.1 kX9_185 tX9_pointsIn.2.1 tX9_pointsIn.2.2.1 rfl (by first | rfl | assumption) tX9_pointsIn.2.2.2 ⟨⟨Nat.le_of_ble_eq_true rfl, Nat.le_of_ble_eq_true rfl⟩, Nat.le_of_ble_eq_true rfl, Nat.le_of_ble_eq_true rfl⟩ rfl (Nat.le_of_ble_eq_true rfl) ?_
        rintro r K' M' P' ⟨rfl, rfl, rfl, hM'⟩
        rw [hM']
        clear hM' M'
        refine ev_istore dX9_drawn_105 (by decide) ?_
        refine ev_iload dX9_drawn_107 rfl ?_
        refine ev_iload dX9_drawn_109 rfl ?_
        refine ev_if_le (tgt := 118) dX9_drawn_111 (by decide) (by omega) (fun hb111 => ?_) (fun hb111 => ?_)
        · refine ev_iconst dX9_drawn_118 ?_
          refine ev_iadd dX9_drawn_119 ?_
          refine ev_istore dX9_drawn_120 (by decide) ?_
          refine ev_iload dX9_drawn_122 rfl ?_
          refine ev_iload dX9_drawn_124 rfl ?_
          refine ev_iadd dX9_drawn_126 ?_
          refine ev_istore dX9_drawn_127 (by decide) ?_
          refine ev_iinc dX9_drawn_129 rfl (by decide) ?_
          refine ev_goto (tgt := 45) dX9_drawn_132 (by decide) ?_
          first | rw [if_pos (by omega)] at fin | rw [if_neg (by omega)] at fin
          exact ev_to fin (by repeat (first | exact trivial | refine ⟨rfl, ?_⟩)) rfl rfl rfl rfl
        · refine ev_iconst dX9_drawn_114 ?_
          refine ev_goto (tgt := 119) dX9_drawn_115 (by decide) ?_
          refine ev_iadd dX9_drawn_119 ?_
          refine ev_istore dX9_drawn_120 (by decide) ?_
          refine ev_iload dX9_drawn_122 rfl ?_
          refine ev_iload dX9_drawn_124 rfl ?_
          refine ev_iadd dX9_drawn_126 ?_
          refine ev_istore dX9_drawn_127 (by decide) ?_
          refine ev_iinc dX9_drawn_129 rfl (by decide) ?_
          refine ev_goto (tgt := 45) dX9_drawn_132 (by decide) ?_
          first | rw [if_pos (by omega)] at fin | rw [if_neg (by omega)] at fin
          exact ev_to fin (by repeat (first | exact trivial | refine ⟨rfl, ?_⟩)) rfl rfl rfl rfl
      have inn := kdw_in (s := sdI s (12 * i)) (T := (T : Int)) (w := w) (t0 := s) r0.1 r0.2 hK.sg x3 hE
      refine ev_iload dX9_drawn_45 rfl ?_
      refine ev_iload_n dX9_drawn_47 rfl ?_
      refine ev_icmp_ge (tgt := 135) dX9_drawn_48 (by decide) (by omega) (by omega) (fun hb48 => ?_) (fun hb48 => ?_)
      · omega
      · refine ev_iconst dX9_drawn_51 ?_
        refine ev_istore dX9_drawn_52 (by decide) ?_
        exact ev_to inn (by repeat (first | exact trivial | refine ⟨rfl, ?_⟩)) rfl rfl rfl rfl
  refine cm_of (by decide +kernel) (fun _ => trivial) (Nat.le_of_ble_eq_true rfl) ?_
  refine ev_iload_n dX9_drawn_0 rfl ?_
  refine ev_i2l dX9_drawn_1 (by omega) ?_
  refine ev_lconst (z := 1) dX9_drawn_2 ?_
  refine ev_ldc2 (z := 8) dX9_drawn_3 jX9_171 (by decide) ?_
  refine ev_calls (k_in (by omega) (by omega) (by omega) M) dX9_drawn_6 tX9_in.1 kX9_60 tX9_in.2.1 tX9_in.2.2 ⟨⟨Nat.le_of_ble_eq_true rfl, Nat.le_of_ble_eq_true rfl⟩, Nat.le_of_ble_eq_true rfl, Nat.le_of_ble_eq_true rfl⟩ rfl (Nat.le_of_ble_eq_true rfl) ?_
  rintro r K' M' P' ⟨rfl, rfl, ⟨v6, rfl, hw6, hv6⟩, hM'⟩
  rw [hM']
  clear hM' M'
  refine ev_if_eq (tgt := 28) dX9_drawn_9 (by decide) (by omega) (fun hb9 => ?_) (fun hb9 => ?_)
  · have g6 := (not_congr hv6).mp (by omega)
    omega
  · have g6 := hv6.mp (by omega)
    refine ev_iload_n dX9_drawn_12 rfl ?_
    refine ev_if_lt (tgt := 28) dX9_drawn_13 (by decide) (by omega) (fun hb13 => ?_) (fun hb13 => ?_)
    · omega
    · refine ev_iload_n dX9_drawn_16 rfl ?_
      refine ev_i2l dX9_drawn_17 (by omega) ?_
      refine ev_lconst (z := 0) dX9_drawn_18 ?_
      refine ev_ldc2 (z := 2) dX9_drawn_19 jX9_247 (by decide) ?_
      refine ev_calls (k_in (by omega) (by omega) (by omega) M) dX9_drawn_22 tX9_in.1 kX9_60 tX9_in.2.1 tX9_in.2.2 ⟨⟨Nat.le_of_ble_eq_true rfl, Nat.le_of_ble_eq_true rfl⟩, Nat.le_of_ble_eq_true rfl, Nat.le_of_ble_eq_true rfl⟩ rfl (Nat.le_of_ble_eq_true rfl) ?_
      rintro r K' M' P' ⟨rfl, rfl, ⟨v22, rfl, hw22, hv22⟩, hM'⟩
      rw [hM']
      clear hM' M'
      refine ev_if_ne (tgt := 31) dX9_drawn_25 (by decide) (by omega) (fun hb25 => ?_) (fun hb25 => ?_)
      · have g22 := hv22.mp (by omega)
        first | refine ev_aload_n dX9_drawn_31 rfl ?_ | refine ev_aloadX_n dX9_drawn_31 rfl ?_
        refine ev_iload_n dX9_drawn_32 rfl ?_
        refine ev_pI 22 dX9_drawn_33 sX9_304 rfl (by first | rfl | assumption) rfl ?_
        refine ev_iconst dX9_drawn_36 ?_
        refine ev_istore dX9_drawn_37 (by decide) ?_
        refine ev_iconst dX9_drawn_39 ?_
        refine ev_istore dX9_drawn_40 (by decide) ?_
        refine ev_iconst dX9_drawn_42 ?_
        refine ev_istore dX9_drawn_43 (by decide) ?_
        have l0 := lp M FrW.rf
        exact ev_to l0 (by repeat (first | exact trivial | refine ⟨rfl, ?_⟩)) rfl rfl rfl rfl
      · have g22 := (not_congr hv22).mp (by omega)
        omega
