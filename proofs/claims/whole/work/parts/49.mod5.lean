/-! ===== the reference: joined, gone through, widened ===== -/
theorem oct_in {S : PS} (h : Oct S) : ∀ p, S p → inP p := by
  intro p hp
  rcases h with h | ⟨f, -, -, rfl⟩
  · exact absurd hp (h p)
  · exact hp.1
theorem k_pts {k : Nat} (hk : k ≤ 9) (M : Mm) {S : PS} (hS : Rw (M 58) k S) : Cm mX9_pointsIn [vR 54, vI (k : Int)] M (fun r M' => r = some (vI (crd S)) ∧ M' = M) := by
  have := k_pointsIn hk M
  rw [hS.sum] at this
  exact this
theorem bnF_bd (S : PS) (j : Int) : -99 ≤ bnF S j ∧ bnF S j ≤ 16 := ⟨mxA_lo _ _ _ _, mxA_hi (by omega)⟩
theorem bnS_in {f : Int → Int} {S : PS} {j : Int} (h : 0 ≤ j) (h2 : j < 36) : bnS f S j = bnF S j := by
  unfold bnS
  rw [if_pos ⟨h, h2⟩]
theorem zmax_in {f g : Int → Int} {S T : PS} {j : Int} (h : 0 ≤ j) (h2 : j < 36) : zipS max (bnS f S) (bnS g T) 36 j = max (bnF S j) (bnF T j) := by
  unfold zipS
  rw [if_pos (by omega), bnS_in h h2, bnS_in h h2]
theorem zmax_by {f g : Int → Int} {S T : PS} (oS : Oct S) (oT : Oct T) (nS : ∃ p, S p) (nT : ∃ p, T p) : byB (zipS max (bnS f S) (bnS g T) 36) = joinS S T := by
  rcases oS with h | ⟨f1, a1, a2, rfl⟩
  · obtain ⟨p, hp⟩ := nS; exact absurd hp (h p)
  rcases oT with h | ⟨g1, b1, b2, rfl⟩
  · obtain ⟨p, hp⟩ := nT; exact absurd hp (h p)
  refine (join_by a1 a2 b1 b2 (fun a b ha hb => ?_)).symm
  show zipS max _ _ 36 (a * 6 + b) = _
  rw [zmax_in (by omega) (by omega), bnF_tc a1 a2 (by omega) (by omega), bnF_tc b1 b2 (by omega) (by omega)]
theorem zmax_sym {f g : Int → Int} {S T : PS} : Sym (zipS max (bnS f S) (bnS g T) 36) := by
  intro a b ha hb
  show zipS max _ _ 36 (a * 6 + b) = zipS max _ _ 36 (b * 6 + a)
  rw [zmax_in (by omega) (by omega), zmax_in (by omega) (by omega)]
  have e1 := bnF_sym S a b ha hb
  have e2 := bnF_sym T a b ha hb
  simp only [mt] at e1 e2
  rw [e1, e2]
/-- what a join leaves -/
abbrev Fj (M M' : Mm) : Prop := ∀ q, q ≠ 58 → q ≠ 60 → q ≠ 61 → M' q = M q
theorem k_join {a b t : Nat} (ha : a ≤ 9) (hb : b ≤ 9) (ht : t ≤ 9) (hat : a ≠ t) (hbt : b ≠ t) (M : Mm) (hs : sgA M) {S T : PS} (hS : Rw (M 58) a S) (hT : Rw (M 58) b T) (oS : Oct S) (oT : Oct T) : Cm mX9_join [vR 54, vI (a : Int), vI (b : Int), vI (t : Int)] M (fun r M' => r = none ∧ M' 58 = setS (M 58) t (joinS S T) ∧ Fj M M') := by
  have cS := crd_rng S
  have cT := crd_rng T
  have zS : crd S = 0 ↔ ∀ p, ¬ S p := crd_0 (oct_in oS)
  have zT : crd T = 0 ↔ ∀ p, ¬ T p := crd_0 (oct_in oT)
  have tail : ∀ (k : Nat) (W : PS), k ≤ 9 → k ≠ t → Rw (M 58) k W → W = joinS S T → Ev mX9_join 30 [some (vR 54), some (vI (a : Int)), some (vI (b : Int)), some (vI (t : Int)), none] [vI (k : Int), vR 54] KK M PP 0 0 (Rz mX9_join (fun r M' => r = none ∧ M' 58 = setS (M 58) t (joinS S T) ∧ Fj M M')) := by
    intro k W h1 h2 h3 h4
    refine ev_iload_n dX9_join_30 rfl ?_
    refine ev_callv (ci := 9) (k_copyShape h1 ht h2 M h3) dX9_join_31 tX9_copyShape.1 kX9_188 tX9_copyShape.2.1 tX9_copyShape.2.2.1 rfl (by first | rfl | assumption) tX9_copyShape.2.2.2 ⟨⟨Nat.le_of_ble_eq_true rfl, Nat.le_of_ble_eq_true rfl⟩, Nat.le_of_ble_eq_true rfl, Nat.le_of_ble_eq_true rfl⟩ rfl (Nat.le_of_ble_eq_true rfl) ?_
    rintro r K' M' P' ⟨rfl, rfl, rfl, hM'⟩
    rw [hM']
    clear hM' M'
    exact ev_return dX9_join_34 rfl (rz ⟨rfl, by rw [rwc_at, h4], fun q q1 _ _ => rwc_ne q1⟩)
  have lst : (∃ p, S p) → (∃ p, T p) → Ev mX9_join 56 [some (vR 54), some (vI (a : Int)), some (vI (b : Int)), some (vI (t : Int)), some (vI ((0 : Nat) : Int))] [] KK (rwc (rwc M 60 (bnS (M 60) S)) 61 (bnS (M 61) T)) PP 0 0 (Rz mX9_join (fun r M' => r = none ∧ M' 58 = setS (M 58) t (joinS S T) ∧ Fj M M')) := by
    intro nS nT
    generalize hX : rwc (rwc M 60 (bnS (M 60) S)) 61 (bnS (M 61) T) = X
    have x60 : X 60 = bnS (M 60) S := by rw [← hX, rwc_ne (by decide), rwc_at]
    have x61 : X 61 = bnS (M 61) T := by rw [← hX, rwc_at]
    have xo : ∀ q, q ≠ 60 → q ≠ 61 → X q = M q := fun q h1 h2 => by rw [← hX, rwc_ne h2, rwc_ne h1]
    refine ev_to (L' := [some (vR 54), some (vI (a : Int)), some (vI (b : Int)), some (vI (t : Int)), some (vI ((0 : Nat) : Int))]) (S' := []) (M' := rwc X 60 (zipS max (bnS (M 60) S) (bnS (M 61) T) (0 : Nat))) (k' := 0) (n' := 0) ?_ (by repeat (first | exact trivial | refine ⟨rfl, ?_⟩)) (by show X = rwc X 60 (zipS max (bnS (M 60) S) (bnS (M 61) T) 0); rw [zipS_0, ← x60, rwc_self]) rfl rfl rfl
    refine up_loop (P := fun i => Ev mX9_join 56 [some (vR 54), some (vI (a : Int)), some (vI (b : Int)), some (vI (t : Int)), some (vI (i : Int))] [] KK (rwc X 60 (zipS max (bnS (M 60) S) (bnS (M 61) T) i)) PP 0 0 _) 36 ?_ ?_
    · have e60 : ∀ f, rwc X 60 f 60 = f := fun f => rwc_at _ _ _
      have e59 : ∀ f, rwc X 60 f 59 = M 59 := fun f => by rw [rwc_ne (by decide), xo 59 (by decide) (by decide)]
      have e58 : ∀ f, rwc X 60 f 58 = M 58 := fun f => by rw [rwc_ne (by decide), xo 58 (by decide) (by decide)]
      refine ev_iload dX9_join_56 rfl ?_
      refine ev_bipush dX9_join_58 ?_
      refine ev_icmp_ge (tgt := 110) dX9_join_60 (by decide) (by omega) (by omega) (fun hb60 => ?_) (fun hb60 => ?_)
      · first | refine ev_aload_n dX9_join_110 rfl ?_ | refine ev_aloadX_n dX9_join_110 rfl ?_
        first | refine ev_aload_n dX9_join_111 rfl ?_ | refine ev_aloadX_n dX9_join_111 rfl ?_
        refine ev_getR dX9_join_112 fX9_26 rfl (by first | rfl | assumption) (by first | rfl | assumption) ?_
        refine ev_iload_n dX9_join_115 rfl ?_
        refine ev_callv (ci := 9) (k_layBy (c := 60) ht rfl (by decide) _ (by intro p x; rw [e59]; exact hs p x) (by intro j h1 h2; rw [e60, zmax_in h1 h2]; have := bnF_bd S j; have := bnF_bd T j; omega) (by rw [e60]; exact zmax_sym)) dX9_join_116 tX9_layBy.1 kX9_194 tX9_layBy.2.1 tX9_layBy.2.2.1 rfl (by first | rfl | assumption) tX9_layBy.2.2.2 ⟨⟨Nat.le_of_ble_eq_true rfl, Nat.le_of_ble_eq_true rfl⟩, Nat.le_of_ble_eq_true rfl, Nat.le_of_ble_eq_true rfl⟩ rfl (Nat.le_of_ble_eq_true rfl) ?_
        rintro r K' M' P' ⟨rfl, rfl, rfl, hM'⟩
        rw [hM']
        clear hM' M'
        exact ev_return dX9_join_119 rfl (rz ⟨rfl, by rw [rwc_at, e58, e60, zmax_by oS oT nS nT], fun q q1 q2 q3 => by rw [rwc_ne q1, rwc_ne q2, xo q q2 q3]⟩)
      · omega
    · intro i hi hP
      have d1 := bnF_bd S i
      have d2 := bnF_bd T i
      have r60 : rwc X 60 (zipS max (bnS (M 60) S) (bnS (M 61) T) i) 60 i = bnF S i := by rw [rwc_at, zipS_at, bnS_in (by omega) (by omega)]
      have r61 : rwc X 60 (zipS max (bnS (M 60) S) (bnS (M 61) T) i) 61 i = bnF T i := by rw [rwc_ne (by decide), x61, bnS_in (by omega) (by omega)]
      refine ev_iload dX9_join_56 rfl ?_
      refine ev_bipush dX9_join_58 ?_
      refine ev_icmp_ge (tgt := 110) dX9_join_60 (by decide) (by omega) (by omega) (fun hb60 => ?_) (fun hb60 => ?_)
      · omega
      · first | refine ev_aload_n dX9_join_63 rfl ?_ | refine ev_aloadX_n dX9_join_63 rfl ?_
        refine ev_getR dX9_join_64 fX9_26 rfl (by first | rfl | assumption) (by first | rfl | assumption) ?_
        refine ev_iload dX9_join_67 rfl ?_
        first | refine ev_aload_n dX9_join_69 rfl ?_ | refine ev_aloadX_n dX9_join_69 rfl ?_
        refine ev_getR dX9_join_70 fX9_29 rfl (by first | rfl | assumption) (by first | rfl | assumption) ?_
        refine ev_iload dX9_join_73 rfl ?_
        refine ev_iaload dX9_join_75 (by first | rfl | assumption) (by omega) (by omega) (by decide) ?_
        rw [r61]
        first | refine ev_aload_n dX9_join_76 rfl ?_ | refine ev_aloadX_n dX9_join_76 rfl ?_
        refine ev_getR dX9_join_77 fX9_26 rfl (by first | rfl | assumption) (by first | rfl | assumption) ?_
        refine ev_iload dX9_join_80 rfl ?_
        refine ev_iaload dX9_join_82 (by first | rfl | assumption) (by omega) (by omega) (by decide) ?_
        rw [r60]
        refine ev_icmp_le (tgt := 96) dX9_join_83 (by decide) (by omega) (by omega) (fun hb83 => ?_) (fun hb83 => ?_)
        · first | refine ev_aload_n dX9_join_96 rfl ?_ | refine ev_aloadX_n dX9_join_96 rfl ?_
          refine ev_getR dX9_join_97 fX9_26 rfl (by first | rfl | assumption) (by first | rfl | assumption) ?_
          refine ev_iload dX9_join_100 rfl ?_
          refine ev_iaload dX9_join_102 (by first | rfl | assumption) (by omega) (by omega) (by decide) ?_
          first | rw [r61] | rw [r60]
          refine ev_iastore dX9_join_103 (by first | rfl | assumption) (by omega) (by omega) (by decide) ?_
          refine ev_iinc dX9_join_104 rfl (by decide) ?_
          refine ev_goto (tgt := 56) dX9_join_107 (by decide) ?_
          refine ev_to hP (by repeat (first | exact trivial | refine ⟨rfl, ?_⟩)) ?_ rfl rfl rfl
          rw [upM_rw, rwc_rwc, rwc_at, ← zipS_s, bnS_in (by omega) (by omega), bnS_in (by omega) (by omega)]
          congr 2
          omega
        · first | refine ev_aload_n dX9_join_86 rfl ?_ | refine ev_aloadX_n dX9_join_86 rfl ?_
          refine ev_getR dX9_join_87 fX9_29 rfl (by first | rfl | assumption) (by first | rfl | assumption) ?_
          refine ev_iload dX9_join_90 rfl ?_
          refine ev_iaload dX9_join_92 (by first | rfl | assumption) (by omega) (by omega) (by decide) ?_
          refine ev_goto (tgt := 103) dX9_join_93 (by decide) ?_
          first | rw [r61] | rw [r60]
          refine ev_iastore dX9_join_103 (by first | rfl | assumption) (by omega) (by omega) (by decide) ?_
          refine ev_iinc dX9_join_104 rfl (by decide) ?_
          refine ev_goto (tgt := 56) dX9_join_107 (by decide) ?_
          refine ev_to hP (by repeat (first | exact trivial | refine ⟨rfl, ?_⟩)) ?_ rfl rfl rfl
          rw [upM_rw, rwc_rwc, rwc_at, ← zipS_s, bnS_in (by omega) (by omega), bnS_in (by omega) (by omega)]
          congr 2
          omega
  refine cm_of (by decide +kernel) (fun _ => trivial) (Nat.le_of_ble_eq_true rfl) ?_
  first | refine ev_aload_n dX9_join_0 rfl ?_ | refine ev_aloadX_n dX9_join_0 rfl ?_
  refine ev_iload_n dX9_join_1 rfl ?_
  refine ev_callv (ci := 9) (k_pts ha M hS) dX9_join_2 tX9_pointsIn.1 kX9_185 tX9_pointsIn.2.1 tX9_pointsIn.2.2.1 rfl (by first | rfl | assumption) tX9_pointsIn.2.2.2 ⟨⟨Nat.le_of_ble_eq_true rfl, Nat.le_of_ble_eq_true rfl⟩, Nat.le_of_ble_eq_true rfl, Nat.le_of_ble_eq_true rfl⟩ rfl (Nat.le_of_ble_eq_true rfl) ?_
  rintro r K' M' P' ⟨rfl, rfl, rfl, hM'⟩
  rw [hM']
  clear hM' M'
  refine ev_if_eq (tgt := 16) dX9_join_5 (by decide) (by omega) (fun hb5 => ?_) (fun hb5 => ?_)
  · first | refine ev_aload_n dX9_join_16 rfl ?_ | refine ev_aloadX_n dX9_join_16 rfl ?_
    first | refine ev_aload_n dX9_join_17 rfl ?_ | refine ev_aloadX_n dX9_join_17 rfl ?_
    refine ev_iload_n dX9_join_18 rfl ?_
    refine ev_callv (ci := 9) (k_pts ha M hS) dX9_join_19 tX9_pointsIn.1 kX9_185 tX9_pointsIn.2.1 tX9_pointsIn.2.2.1 rfl (by first | rfl | assumption) tX9_pointsIn.2.2.2 ⟨⟨Nat.le_of_ble_eq_true rfl, Nat.le_of_ble_eq_true rfl⟩, Nat.le_of_ble_eq_true rfl, Nat.le_of_ble_eq_true rfl⟩ rfl (Nat.le_of_ble_eq_true rfl) ?_
    rintro r K' M' P' ⟨rfl, rfl, rfl, hM'⟩
    rw [hM']
    clear hM' M'
    refine ev_if_ne (tgt := 29) dX9_join_22 (by decide) (by omega) (fun hb22 => ?_) (fun hb22 => ?_)
    · refine ev_iload_n dX9_join_29 rfl ?_
      first | exact ev_to (tail b T hb hbt hT (join_0l oT (zS.mp (by omega))).symm) (by repeat (first | exact trivial | refine ⟨rfl, ?_⟩)) rfl rfl rfl rfl | exact ev_to (tail a S ha hat hS (join_0r oS (zT.mp (by omega))).symm) (by repeat (first | exact trivial | refine ⟨rfl, ?_⟩)) rfl rfl rfl rfl
    · refine ev_iload_n dX9_join_25 rfl ?_
      refine ev_goto (tgt := 30) dX9_join_26 (by decide) ?_
      first | exact ev_to (tail b T hb hbt hT (join_0l oT (zS.mp (by omega))).symm) (by repeat (first | exact trivial | refine ⟨rfl, ?_⟩)) rfl rfl rfl rfl | exact ev_to (tail a S ha hat hS (join_0r oS (zT.mp (by omega))).symm) (by repeat (first | exact trivial | refine ⟨rfl, ?_⟩)) rfl rfl rfl rfl
  · first | refine ev_aload_n dX9_join_8 rfl ?_ | refine ev_aloadX_n dX9_join_8 rfl ?_
    refine ev_iload_n dX9_join_9 rfl ?_
    refine ev_callv (ci := 9) (k_pts hb M hT) dX9_join_10 tX9_pointsIn.1 kX9_185 tX9_pointsIn.2.1 tX9_pointsIn.2.2.1 rfl (by first | rfl | assumption) tX9_pointsIn.2.2.2 ⟨⟨Nat.le_of_ble_eq_true rfl, Nat.le_of_ble_eq_true rfl⟩, Nat.le_of_ble_eq_true rfl, Nat.le_of_ble_eq_true rfl⟩ rfl (Nat.le_of_ble_eq_true rfl) ?_
    rintro r K' M' P' ⟨rfl, rfl, rfl, hM'⟩
    rw [hM']
    clear hM' M'
    refine ev_if_ne (tgt := 35) dX9_join_13 (by decide) (by omega) (fun hb13 => ?_) (fun hb13 => ?_)
    · first | refine ev_aload_n dX9_join_35 rfl ?_ | refine ev_aloadX_n dX9_join_35 rfl ?_
      refine ev_iload_n dX9_join_36 rfl ?_
      first | refine ev_aload_n dX9_join_37 rfl ?_ | refine ev_aloadX_n dX9_join_37 rfl ?_
      refine ev_getR dX9_join_38 fX9_26 rfl (by first | rfl | assumption) (by first | rfl | assumption) ?_
      refine ev_callv (ci := 9) (k_layBounds ha rfl (by decide) (by decide) M hs hS) dX9_join_41 tX9_layBounds.1 kX9_191 tX9_layBounds.2.1 tX9_layBounds.2.2.1 rfl (by first | rfl | assumption) tX9_layBounds.2.2.2 ⟨⟨Nat.le_of_ble_eq_true rfl, Nat.le_of_ble_eq_true rfl⟩, Nat.le_of_ble_eq_true rfl, Nat.le_of_ble_eq_true rfl⟩ rfl (Nat.le_of_ble_eq_true rfl) ?_
      rintro r K' M' P' ⟨rfl, rfl, rfl, hM'⟩
      rw [hM']
      clear hM' M'
      first | refine ev_aload_n dX9_join_44 rfl ?_ | refine ev_aloadX_n dX9_join_44 rfl ?_
      refine ev_iload_n dX9_join_45 rfl ?_
      first | refine ev_aload_n dX9_join_46 rfl ?_ | refine ev_aloadX_n dX9_join_46 rfl ?_
      refine ev_getR dX9_join_47 fX9_29 rfl (by first | rfl | assumption) (by first | rfl | assumption) ?_
      refine ev_callv (ci := 9) (k_layBounds (c := 61) hb rfl (by decide) (by decide) _ (by intro p x; rw [rwc_ne (by decide)]; exact hs p x) (by rw [rwc_ne (by decide)]; exact hT)) dX9_join_50 tX9_layBounds.1 kX9_191 tX9_layBounds.2.1 tX9_layBounds.2.2.1 rfl (by first | rfl | assumption) tX9_layBounds.2.2.2 ⟨⟨Nat.le_of_ble_eq_true rfl, Nat.le_of_ble_eq_true rfl⟩, Nat.le_of_ble_eq_true rfl, Nat.le_of_ble_eq_true rfl⟩ rfl (Nat.le_of_ble_eq_true rfl) ?_
      rintro r K' M' P' ⟨rfl, rfl, rfl, hM'⟩
      rw [hM']
      clear hM' M'
      have e61 : rwc M 60 (bnS (M 60) S) 61 = M 61 := rwc_ne (by decide)
      rw [e61]
      refine ev_iconst dX9_join_53 ?_
      refine ev_istore dX9_join_54 (by decide) ?_
      exact ev_to (lst (Classical.byContradiction fun z => by have := zS.mpr (fun p hp => z ⟨p, hp⟩); omega) (Classical.byContradiction fun z => by have := zT.mpr (fun p hp => z ⟨p, hp⟩); omega)) (by repeat (first | exact trivial | refine ⟨rfl, ?_⟩)) rfl rfl rfl rfl
    · first | refine ev_aload_n dX9_join_16 rfl ?_ | refine ev_aloadX_n dX9_join_16 rfl ?_
      first | refine ev_aload_n dX9_join_17 rfl ?_ | refine ev_aloadX_n dX9_join_17 rfl ?_
      refine ev_iload_n dX9_join_18 rfl ?_
      refine ev_callv (ci := 9) (k_pts ha M hS) dX9_join_19 tX9_pointsIn.1 kX9_185 tX9_pointsIn.2.1 tX9_pointsIn.2.2.1 rfl (by first | rfl | assumption) tX9_pointsIn.2.2.2 ⟨⟨Nat.le_of_ble_eq_true rfl, Nat.le_of_ble_eq_true rfl⟩, Nat.le_of_ble_eq_true rfl, Nat.le_of_ble_eq_true rfl⟩ rfl (Nat.le_of_ble_eq_true rfl) ?_
      rintro r K' M' P' ⟨rfl, rfl, rfl, hM'⟩
      rw [hM']
      clear hM' M'
      refine ev_if_ne (tgt := 29) dX9_join_22 (by decide) (by omega) (fun hb22 => ?_) (fun hb22 => ?_)
      · refine ev_iload_n dX9_join_29 rfl ?_
        first | exact ev_to (tail b T hb hbt hT (join_0l oT (zS.mp (by omega))).symm) (by repeat (first | exact trivial | refine ⟨rfl, ?_⟩)) rfl rfl rfl rfl | exact ev_to (tail a S ha hat hS (join_0r oS (zT.mp (by omega))).symm) (by repeat (first | exact trivial | refine ⟨rfl, ?_⟩)) rfl rfl rfl rfl
      · refine ev_iload_n dX9_join_25 rfl ?_
        refine ev_goto (tgt := 30) dX9_join_26 (by decide) ?_
        first | exact ev_to (tail b T hb hbt hT (join_0l oT (zS.mp (by omega))).symm) (by repeat (first | exact trivial | refine ⟨rfl, ?_⟩)) rfl rfl rfl rfl | exact ev_to (tail a S ha hat hS (join_0r oS (zT.mp (by omega))).symm) (by repeat (first | exact trivial | refine ⟨rfl, ?_⟩)) rfl rfl rfl rfl
theorem k_doAll {t i : Nat} (hti : t ≤ i) (hi : i ≤ 6) (M : Mm) (hs : sgA M) {T : PS} (hT : Rw (M 58) t T) (oT : Oct T) (hst : ∀ j : Nat, t ≤ j → j < i → mOK (M 57) j) : Cm mX9_doAll [vR 54, vI (t : Int), vI (i : Int)] M (fun r M' => r = none ∧ ∃ f, M' = rwc M 58 f ∧ (∀ j, j ≤ i - t → Rw f (t + j) (plc (mK (M 57)) (mA (M 57)) (mB (M 57)) (mZ (M 57)) T t j)) ∧ ∀ q W, (q ≤ t ∨ i < q) → Rw (M 58) q W → Rw f q W) := by
  have o57 : ∀ f, rwc M 58 f 57 = M 57 := fun f => rwc_ne (by decide)
  have o59 : ∀ f, rwc M 58 f 59 = M 59 := fun f => rwc_ne (by decide)
  refine cm_of (by decide +kernel) (fun _ => trivial) (Nat.le_of_ble_eq_true rfl) ?_
  refine ev_iload_n dX9_doAll_0 rfl ?_
  refine ev_istore_n dX9_doAll_1 (by decide) ?_
  have lp : ∀ f, (∀ j, j ≤ 0 → Rw f (t + j) (plc (mK (M 57)) (mA (M 57)) (mB (M 57)) (mZ (M 57)) T t j)) → (∀ q W, (q ≤ t ∨ i < q) → Rw (M 58) q W → Rw f q W) → Ev mX9_doAll 2 [some (vR 54), some (vI (t : Int)), some (vI (i : Int)), some (vI ((t + 0 : Nat) : Int))] [] KK (rwc M 58 f) PP 0 0 (Rz mX9_doAll (fun r M' => r = none ∧ ∃ f, M' = rwc M 58 f ∧ (∀ j, j ≤ i - t → Rw f (t + j) (plc (mK (M 57)) (mA (M 57)) (mB (M 57)) (mZ (M 57)) T t j)) ∧ ∀ q W, (q ≤ t ∨ i < q) → Rw (M 58) q W → Rw f q W)) := by
    refine up_loop (P := fun k => ∀ f, (∀ j, j ≤ k → Rw f (t + j) (plc (mK (M 57)) (mA (M 57)) (mB (M 57)) (mZ (M 57)) T t j)) → (∀ q W, (q ≤ t ∨ i < q) → Rw (M 58) q W → Rw f q W) → Ev mX9_doAll 2 [some (vR 54), some (vI (t : Int)), some (vI (i : Int)), some (vI ((t + k : Nat) : Int))] [] KK (rwc M 58 f) PP 0 0 _) (i - t) ?_ ?_
    · intro f h1 h2
      refine ev_iload_n dX9_doAll_2 rfl ?_
      refine ev_iload_n dX9_doAll_3 rfl ?_
      refine ev_icmp_ge (tgt := 18) dX9_doAll_4 (by decide) (by omega) (by omega) (fun hb4 => ?_) (fun hb4 => ?_)
      · exact ev_return dX9_doAll_18 rfl (rz ⟨rfl, f, rfl, h1, h2⟩)
      · omega
    · intro k hk hP f h1 h2
      have oP : Oct (plc (mK (M 57)) (mA (M 57)) (mB (M 57)) (mZ (M 57)) T t k) := oct_plc (i := i) oT hst k (by omega)
      refine ev_iload_n dX9_doAll_2 rfl ?_
      refine ev_iload_n dX9_doAll_3 rfl ?_
      refine ev_icmp_ge (tgt := 18) dX9_doAll_4 (by decide) (by omega) (by omega) (fun hb4 => ?_) (fun hb4 => ?_)
      · omega
      · first | refine ev_aload_n dX9_doAll_7 rfl ?_ | refine ev_aloadX_n dX9_doAll_7 rfl ?_
        refine ev_iload_n dX9_doAll_8 rfl ?_
        refine ev_callv (ci := 9) (k_doStep (k := t + k) (by omega) _ (by intro p x; rw [o59]; exact hs p x) (by rw [o57]; exact hst (t + k) (by omega) (by omega)) (by rw [rwc_at]; exact h1 k (by omega)) (oct_in oP)) dX9_doAll_9 tX9_doStep.1 kX9_198 tX9_doStep.2.1 tX9_doStep.2.2.1 rfl (by first | rfl | assumption) tX9_doStep.2.2.2 ⟨⟨Nat.le_of_ble_eq_true rfl, Nat.le_of_ble_eq_true rfl⟩, Nat.le_of_ble_eq_true rfl, Nat.le_of_ble_eq_true rfl⟩ rfl (Nat.le_of_ble_eq_true rfl) ?_
        rintro r K' M' P' ⟨rfl, rfl, rfl, hM'⟩
        rw [hM']
        clear hM' M'
        rw [rwc_rwc, rwc_at, o57]
        refine ev_iinc dX9_doAll_12 rfl (by decide) ?_
        refine ev_goto (tgt := 2) dX9_doAll_15 (by decide) ?_
        refine ev_to (hP _ (fun j hj => ?_) (fun q W hq hW => ?_)) (by repeat (first | exact trivial | refine ⟨rfl, ?_⟩)) rfl rfl rfl rfl
        · by_cases hj2 : j = k + 1
          · subst hj2; exact setS_at _ _ _
          · exact setS_ne (h1 j (by omega)) (by omega)
        · exact setS_ne (h2 q W hq hW) (by omega)
  refine ev_to (lp (M 58) (fun j hj => ?_) (fun q W _ h => h)) (by repeat (first | exact trivial | refine ⟨rfl, ?_⟩)) (by rw [rwc_self]) rfl rfl rfl
  have : j = 0 := by omega
  subst this
  exact hT
noncomputable def wdS (E : Prop) (f : Int → Int) (N : PS) (i : Nat) : Int → Int := fun j => if 0 ≤ j ∧ j < i then wdF E f N j else f j
theorem wdS_0 (E : Prop) (f : Int → Int) (N : PS) : wdS E f N 0 = f := by
  funext j
  unfold wdS
  rw [if_neg (by omega)]
theorem wdS_s {E : Prop} {f : Int → Int} {N : PS} {i : Nat} {z : Int} (hz : z = wdF E f N i) : up1 (wdS E f N i) i z = wdS E f N (i + 1) := by
  funext j
  unfold wdS up1
  by_cases hj : j = (i : Int)
  · rw [if_pos hj, if_pos (by omega), hz, hj]
  · rw [if_neg hj]
    dsimp only
    split <;> split <;> first | rfl | omega
theorem wdF_1 {E : Prop} {f : Int → Int} {N : PS} {j : Int} (h : E) : wdF E f N j = bnF N j := by unfold wdF; rw [if_pos h]
theorem wdF_0 {E : Prop} {f : Int → Int} {N : PS} {j : Int} (h : ¬ E) : wdF E f N j = if f j < bnF N j then 16 else f j := by unfold wdF; rw [if_neg h]
theorem k_widen {e : Int} {E : Prop} (he : e = 0 ∨ e = 1) (hE : e = 1 ↔ E) (M : Mm) (hs : sgA M) {N : PS} (hN : Rw (M 58) 8 N) (hB : ∀ j, 0 ≤ j → j < 36 → -1000 ≤ M 62 j ∧ M 62 j ≤ 1000) : Cm mX9_widen [vR 54, vI e] M (fun r M' => r = none ∧ (∀ j, 0 ≤ j → j < 36 → M' 62 j = wdF E (M 62) N j) ∧ ∀ q, q ≠ 60 → q ≠ 62 → M' q = M q) := by
  have E1 : e ≠ 0 → E := fun h => hE.mp (by omega)
  have E0 : e = 0 → ¬ E := fun h h' => by have := hE.mpr h'; omega
  refine cm_of (by decide +kernel) (fun _ => trivial) (Nat.le_of_ble_eq_true rfl) ?_
  first | refine ev_aload_n dX9_widen_0 rfl ?_ | refine ev_aloadX_n dX9_widen_0 rfl ?_
  refine ev_bipush dX9_widen_1 ?_
  first | refine ev_aload_n dX9_widen_3 rfl ?_ | refine ev_aloadX_n dX9_widen_3 rfl ?_
  refine ev_getR dX9_widen_4 fX9_26 rfl (by first | rfl | assumption) (by first | rfl | assumption) ?_
  refine ev_callv (ci := 9) (k_layBounds (k := 8) (c := 60) (by omega) rfl (by decide) (by decide) M hs hN) dX9_widen_7 tX9_layBounds.1 kX9_191 tX9_layBounds.2.1 tX9_layBounds.2.2.1 rfl (by first | rfl | assumption) tX9_layBounds.2.2.2 ⟨⟨Nat.le_of_ble_eq_true rfl, Nat.le_of_ble_eq_true rfl⟩, Nat.le_of_ble_eq_true rfl, Nat.le_of_ble_eq_true rfl⟩ rfl (Nat.le_of_ble_eq_true rfl) ?_
  rintro r K' M' P' ⟨rfl, rfl, rfl, hM'⟩
  rw [hM']
  clear hM' M'
  generalize hX : rwc M 60 (bnS (M 60) N) = X
  have x60 : X 60 = bnS (M 60) N := by rw [← hX, rwc_at]
  have xo : ∀ q, q ≠ 60 → X q = M q := fun q h1 => by rw [← hX, rwc_ne h1]
  refine ev_iconst dX9_widen_10 ?_
  refine ev_istore_n dX9_widen_11 (by decide) ?_
  refine ev_to (L' := [some (vR 54), some (vI e), some (vI ((0 : Nat) : Int))]) (S' := []) (M' := rwc X 62 (wdS E (M 62) N (0 : Nat))) (k' := 0) (n' := 0) ?_ (by repeat (first | exact trivial | refine ⟨rfl, ?_⟩)) (by show X = rwc X 62 (wdS E (M 62) N 0); rw [wdS_0, ← xo 62 (by decide), rwc_self]) rfl rfl rfl
  refine up_loop (P := fun i => Ev mX9_widen 12 [some (vR 54), some (vI e), some (vI (i : Int))] [] KK (rwc X 62 (wdS E (M 62) N i)) PP 0 0 _) 36 ?_ ?_
  · refine ev_iload_n dX9_widen_12 rfl ?_
    refine ev_bipush dX9_widen_13 ?_
    refine ev_icmp_ge (tgt := 69) dX9_widen_15 (by decide) (by omega) (by omega) (fun hb15 => ?_) (fun hb15 => ?_)
    · exact ev_return dX9_widen_69 rfl (rz ⟨rfl, fun j h1 h2 => by (rw [rwc_at]; unfold wdS; rw [if_pos (by omega)]), fun q q1 q2 => by rw [rwc_ne q2, xo q q1]⟩)
    · omega
  · intro i hi hP
    have d2 := bnF_bd N i
    have d1 := hB i (by omega) (by omega)
    have r60 : rwc X 62 (wdS E (M 62) N i) 60 i = bnF N i := by rw [rwc_ne (by decide), x60, bnS_in (by omega) (by omega)]
    have r62 : rwc X 62 (wdS E (M 62) N i) 62 i = M 62 i := by rw [rwc_at]; unfold wdS; rw [if_neg (by omega)]
    refine ev_iload_n dX9_widen_12 rfl ?_
    refine ev_bipush dX9_widen_13 ?_
    refine ev_icmp_ge (tgt := 69) dX9_widen_15 (by decide) (by omega) (by omega) (fun hb15 => ?_) (fun hb15 => ?_)
    · omega
    · first | refine ev_aload_n dX9_widen_18 rfl ?_ | refine ev_aloadX_n dX9_widen_18 rfl ?_
      refine ev_getR dX9_widen_19 fX9_32 rfl (by first | rfl | assumption) (by first | rfl | assumption) ?_
      refine ev_iload_n dX9_widen_22 rfl ?_
      refine ev_iload_n dX9_widen_23 rfl ?_
      refine ev_if_eq (tgt := 36) dX9_widen_24 (by decide) (by omega) (fun hb24 => ?_) (fun hb24 => ?_)
      · first | refine ev_aload_n dX9_widen_36 rfl ?_ | refine ev_aloadX_n dX9_widen_36 rfl ?_
        refine ev_getR dX9_widen_37 fX9_32 rfl (by first | rfl | assumption) (by first | rfl | assumption) ?_
        refine ev_iload_n dX9_widen_40 rfl ?_
        refine ev_iaload dX9_widen_41 (by first | rfl | assumption) (by omega) (by omega) (by decide) ?_
        rw [r62]
        first | refine ev_aload_n dX9_widen_42 rfl ?_ | refine ev_aloadX_n dX9_widen_42 rfl ?_
        refine ev_getR dX9_widen_43 fX9_26 rfl (by first | rfl | assumption) (by first | rfl | assumption) ?_
        refine ev_iload_n dX9_widen_46 rfl ?_
        refine ev_iaload dX9_widen_47 (by first | rfl | assumption) (by omega) (by omega) (by decide) ?_
        rw [r60]
        refine ev_icmp_ge (tgt := 56) dX9_widen_48 (by decide) (by omega) (by omega) (fun hb48 => ?_) (fun hb48 => ?_)
        · first | refine ev_aload_n dX9_widen_56 rfl ?_ | refine ev_aloadX_n dX9_widen_56 rfl ?_
          refine ev_getR dX9_widen_57 fX9_32 rfl (by first | rfl | assumption) (by first | rfl | assumption) ?_
          refine ev_iload_n dX9_widen_60 rfl ?_
          refine ev_iaload dX9_widen_61 (by first | rfl | assumption) (by omega) (by omega) (by decide) ?_
          try rw [r62]
          refine ev_iastore dX9_widen_62 (by first | rfl | assumption) (by omega) (by omega) (by decide) ?_
          refine ev_iinc dX9_widen_63 rfl (by decide) ?_
          refine ev_goto (tgt := 12) dX9_widen_66 (by decide) ?_
          refine ev_to hP (by repeat (first | exact trivial | refine ⟨rfl, ?_⟩)) ?_ rfl rfl rfl
          rw [upM_rw, rwc_rwc, rwc_at]
          congr 1
          refine wdS_s ?_
          first | (rw [wdF_1 (E1 hb24)]; done) | (rw [wdF_0 (E0 hb24), if_pos hb48]; done) | (rw [wdF_0 (E0 hb24), if_neg (by omega)]; done)
        · refine ev_bipush dX9_widen_51 ?_
          refine ev_goto (tgt := 62) dX9_widen_53 (by decide) ?_
          try rw [r62]
          refine ev_iastore dX9_widen_62 (by first | rfl | assumption) (by omega) (by omega) (by decide) ?_
          refine ev_iinc dX9_widen_63 rfl (by decide) ?_
          refine ev_goto (tgt := 12) dX9_widen_66 (by decide) ?_
          refine ev_to hP (by repeat (first | exact trivial | refine ⟨rfl, ?_⟩)) ?_ rfl rfl rfl
          rw [upM_rw, rwc_rwc, rwc_at]
          congr 1
          refine wdS_s ?_
          first | (rw [wdF_1 (E1 hb24)]; done) | (rw [wdF_0 (E0 hb24), if_pos hb48]; done) | (rw [wdF_0 (E0 hb24), if_neg (by omega)]; done)
      · first | refine ev_aload_n dX9_widen_27 rfl ?_ | refine ev_aloadX_n dX9_widen_27 rfl ?_
        refine ev_getR dX9_widen_28 fX9_26 rfl (by first | rfl | assumption) (by first | rfl | assumption) ?_
        refine ev_iload_n dX9_widen_31 rfl ?_
        refine ev_iaload dX9_widen_32 (by first | rfl | assumption) (by omega) (by omega) (by decide) ?_
        rw [r60]
        refine ev_goto (tgt := 62) dX9_widen_33 (by decide) ?_
        try rw [r62]
        refine ev_iastore dX9_widen_62 (by first | rfl | assumption) (by omega) (by omega) (by decide) ?_
        refine ev_iinc dX9_widen_63 rfl (by decide) ?_
        refine ev_goto (tgt := 12) dX9_widen_66 (by decide) ?_
        refine ev_to hP (by repeat (first | exact trivial | refine ⟨rfl, ?_⟩)) ?_ rfl rfl rfl
        rw [upM_rw, rwc_rwc, rwc_at]
        congr 1
        refine wdS_s ?_
        first | (rw [wdF_1 (E1 hb24)]; done) | (rw [wdF_0 (E0 hb24), if_pos hb48]; done) | (rw [wdF_0 (E0 hb24), if_neg (by omega)]; done)
