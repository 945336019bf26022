/-! ===== Shape: points in it, and how many ===== -/
abbrev pairP (f : Int → Int) (x0 x1 : Int) : Prop := 2 * x0 ≤ mt f 0 0 ∧ -2 * x0 ≤ mt f 1 1 ∧ 2 * x1 ≤ mt f 2 2 ∧ -2 * x1 ≤ mt f 3 3 ∧ x0 + x1 ≤ mt f 0 2 ∧ x0 - x1 ≤ mt f 0 3 ∧ x1 - x0 ≤ mt f 1 2 ∧ -x0 - x1 ≤ mt f 1 3
def roomF (f : Int → Int) (q x0 x1 : Int) : Int := min ((mt f q q).tdiv 2) (min (min (mt f q 0 - x0) (mt f q 1 + x0)) (min (mt f q 2 - x1) (mt f q 3 + x1)))
theorem c_containsPair {c : Nat} (hs : isSh c) {x0 x1 : Int} (h0 : -8 ≤ x0) (h1 : x0 ≤ 8) (h2 : -8 ≤ x1) (h3 : x1 ≤ 8) (M : Mm) (hB : bdd 1000 (M (c + 1))) : Cm mX6_containsPair [vR c, vI x0, vI x1] M (fun r M' => yn (pairP (M (c + 1)) x0 x1) r ∧ M' = M) := by
  obtain ⟨hs1, hs2, hs3⟩ := id hs
  refine cm_of (by decide +kernel) (fun _ => trivial) (Nat.le_of_ble_eq_true rfl) ?_
  have no : ¬ pairP (M (c + 1)) x0 x1 → Ev mX6_containsPair 103 [some (vR c), some (vI x0), some (vI x1)] [] KK M PP 0 0 (Rz mX6_containsPair (fun r M' => yn (pairP (M (c + 1)) x0 x1) r ∧ M' = M)) := by
    intro hn
    refine ev_iconst dX6_containsPair_103 ?_
    exact ev_ireturn dX6_containsPair_104 (okR_z rfl (by first | exact Or.inl rfl | exact Or.inr rfl | assumption)) (rz ⟨yn_0 hn, rfl⟩)
  have b1 := hB (0 * 6 + 0) (by omega) (by omega)
  have b2 := hB (1 * 6 + 1) (by omega) (by omega)
  have b3 := hB (2 * 6 + 2) (by omega) (by omega)
  have b4 := hB (3 * 6 + 3) (by omega) (by omega)
  have b5 := hB (0 * 6 + 2) (by omega) (by omega)
  have b6 := hB (0 * 6 + 3) (by omega) (by omega)
  have b7 := hB (1 * 6 + 2) (by omega) (by omega)
  have b8 := hB (1 * 6 + 3) (by omega) (by omega)
  refine ev_iconst dX6_containsPair_0 ?_
  refine ev_iload_n dX6_containsPair_1 rfl ?_
  refine ev_imul dX6_containsPair_2 ?_
  first | refine ev_aload_n dX6_containsPair_3 rfl ?_ | refine ev_aloadX_n dX6_containsPair_3 rfl ?_
  refine ev_iconst dX6_containsPair_4 ?_
  refine ev_iconst dX6_containsPair_5 ?_
  refine ev_callv (ci := 6) (c_boundOf hs (by omega) (by omega) (by omega) (by omega) _) dX6_containsPair_6 tX6_boundOf.1 kX6_31 tX6_boundOf.2.1 tX6_boundOf.2.2.1 rfl (by first | rfl | assumption) tX6_boundOf.2.2.2 ⟨⟨Nat.le_of_ble_eq_true rfl, Nat.le_of_ble_eq_true rfl⟩, Nat.le_of_ble_eq_true rfl, Nat.le_of_ble_eq_true rfl⟩ rfl (Nat.le_of_ble_eq_true rfl) ?_
  rintro r K' M' P' ⟨rfl, rfl, rfl, hM'⟩
  rw [hM']
  clear hM' M'
  refine ev_icmp_gt (tgt := 103) dX6_containsPair_9 (by decide) (by omega) (by omega) (fun q1 => ?_) (fun q1 => ?_)
  · exact no (fun z => absurd z.1 (Int.not_le.mpr q1))
  refine ev_bipush dX6_containsPair_12 ?_
  refine ev_iload_n dX6_containsPair_14 rfl ?_
  refine ev_imul dX6_containsPair_15 ?_
  first | refine ev_aload_n dX6_containsPair_16 rfl ?_ | refine ev_aloadX_n dX6_containsPair_16 rfl ?_
  refine ev_iconst dX6_containsPair_17 ?_
  refine ev_iconst dX6_containsPair_18 ?_
  refine ev_callv (ci := 6) (c_boundOf hs (by omega) (by omega) (by omega) (by omega) _) dX6_containsPair_19 tX6_boundOf.1 kX6_31 tX6_boundOf.2.1 tX6_boundOf.2.2.1 rfl (by first | rfl | assumption) tX6_boundOf.2.2.2 ⟨⟨Nat.le_of_ble_eq_true rfl, Nat.le_of_ble_eq_true rfl⟩, Nat.le_of_ble_eq_true rfl, Nat.le_of_ble_eq_true rfl⟩ rfl (Nat.le_of_ble_eq_true rfl) ?_
  rintro r K' M' P' ⟨rfl, rfl, rfl, hM'⟩
  rw [hM']
  clear hM' M'
  refine ev_icmp_gt (tgt := 103) dX6_containsPair_22 (by decide) (by omega) (by omega) (fun q2 => ?_) (fun q2 => ?_)
  · exact no (fun z => absurd z.2.1 (Int.not_le.mpr q2))
  refine ev_iconst dX6_containsPair_25 ?_
  refine ev_iload_n dX6_containsPair_26 rfl ?_
  refine ev_imul dX6_containsPair_27 ?_
  first | refine ev_aload_n dX6_containsPair_28 rfl ?_ | refine ev_aloadX_n dX6_containsPair_28 rfl ?_
  refine ev_iconst dX6_containsPair_29 ?_
  refine ev_iconst dX6_containsPair_30 ?_
  refine ev_callv (ci := 6) (c_boundOf hs (by omega) (by omega) (by omega) (by omega) _) dX6_containsPair_31 tX6_boundOf.1 kX6_31 tX6_boundOf.2.1 tX6_boundOf.2.2.1 rfl (by first | rfl | assumption) tX6_boundOf.2.2.2 ⟨⟨Nat.le_of_ble_eq_true rfl, Nat.le_of_ble_eq_true rfl⟩, Nat.le_of_ble_eq_true rfl, Nat.le_of_ble_eq_true rfl⟩ rfl (Nat.le_of_ble_eq_true rfl) ?_
  rintro r K' M' P' ⟨rfl, rfl, rfl, hM'⟩
  rw [hM']
  clear hM' M'
  refine ev_icmp_gt (tgt := 103) dX6_containsPair_34 (by decide) (by omega) (by omega) (fun q3 => ?_) (fun q3 => ?_)
  · exact no (fun z => absurd z.2.2.1 (Int.not_le.mpr q3))
  refine ev_bipush dX6_containsPair_37 ?_
  refine ev_iload_n dX6_containsPair_39 rfl ?_
  refine ev_imul dX6_containsPair_40 ?_
  first | refine ev_aload_n dX6_containsPair_41 rfl ?_ | refine ev_aloadX_n dX6_containsPair_41 rfl ?_
  refine ev_iconst dX6_containsPair_42 ?_
  refine ev_iconst dX6_containsPair_43 ?_
  refine ev_callv (ci := 6) (c_boundOf hs (by omega) (by omega) (by omega) (by omega) _) dX6_containsPair_44 tX6_boundOf.1 kX6_31 tX6_boundOf.2.1 tX6_boundOf.2.2.1 rfl (by first | rfl | assumption) tX6_boundOf.2.2.2 ⟨⟨Nat.le_of_ble_eq_true rfl, Nat.le_of_ble_eq_true rfl⟩, Nat.le_of_ble_eq_true rfl, Nat.le_of_ble_eq_true rfl⟩ rfl (Nat.le_of_ble_eq_true rfl) ?_
  rintro r K' M' P' ⟨rfl, rfl, rfl, hM'⟩
  rw [hM']
  clear hM' M'
  refine ev_icmp_gt (tgt := 103) dX6_containsPair_47 (by decide) (by omega) (by omega) (fun q4 => ?_) (fun q4 => ?_)
  · exact no (fun z => absurd z.2.2.2.1 (Int.not_le.mpr q4))
  refine ev_iload_n dX6_containsPair_50 rfl ?_
  refine ev_iload_n dX6_containsPair_51 rfl ?_
  refine ev_iadd dX6_containsPair_52 ?_
  first | refine ev_aload_n dX6_containsPair_53 rfl ?_ | refine ev_aloadX_n dX6_containsPair_53 rfl ?_
  refine ev_iconst dX6_containsPair_54 ?_
  refine ev_iconst dX6_containsPair_55 ?_
  refine ev_callv (ci := 6) (c_boundOf hs (by omega) (by omega) (by omega) (by omega) _) dX6_containsPair_56 tX6_boundOf.1 kX6_31 tX6_boundOf.2.1 tX6_boundOf.2.2.1 rfl (by first | rfl | assumption) tX6_boundOf.2.2.2 ⟨⟨Nat.le_of_ble_eq_true rfl, Nat.le_of_ble_eq_true rfl⟩, Nat.le_of_ble_eq_true rfl, Nat.le_of_ble_eq_true rfl⟩ rfl (Nat.le_of_ble_eq_true rfl) ?_
  rintro r K' M' P' ⟨rfl, rfl, rfl, hM'⟩
  rw [hM']
  clear hM' M'
  refine ev_icmp_gt (tgt := 103) dX6_containsPair_59 (by decide) (by omega) (by omega) (fun q5 => ?_) (fun q5 => ?_)
  · exact no (fun z => absurd z.2.2.2.2.1 (Int.not_le.mpr q5))
  refine ev_iload_n dX6_containsPair_62 rfl ?_
  refine ev_iload_n dX6_containsPair_63 rfl ?_
  refine ev_isub dX6_containsPair_64 ?_
  first | refine ev_aload_n dX6_containsPair_65 rfl ?_ | refine ev_aloadX_n dX6_containsPair_65 rfl ?_
  refine ev_iconst dX6_containsPair_66 ?_
  refine ev_iconst dX6_containsPair_67 ?_
  refine ev_callv (ci := 6) (c_boundOf hs (by omega) (by omega) (by omega) (by omega) _) dX6_containsPair_68 tX6_boundOf.1 kX6_31 tX6_boundOf.2.1 tX6_boundOf.2.2.1 rfl (by first | rfl | assumption) tX6_boundOf.2.2.2 ⟨⟨Nat.le_of_ble_eq_true rfl, Nat.le_of_ble_eq_true rfl⟩, Nat.le_of_ble_eq_true rfl, Nat.le_of_ble_eq_true rfl⟩ rfl (Nat.le_of_ble_eq_true rfl) ?_
  rintro r K' M' P' ⟨rfl, rfl, rfl, hM'⟩
  rw [hM']
  clear hM' M'
  refine ev_icmp_gt (tgt := 103) dX6_containsPair_71 (by decide) (by omega) (by omega) (fun q6 => ?_) (fun q6 => ?_)
  · exact no (fun z => absurd z.2.2.2.2.2.1 (Int.not_le.mpr q6))
  refine ev_iload_n dX6_containsPair_74 rfl ?_
  refine ev_iload_n dX6_containsPair_75 rfl ?_
  refine ev_isub dX6_containsPair_76 ?_
  first | refine ev_aload_n dX6_containsPair_77 rfl ?_ | refine ev_aloadX_n dX6_containsPair_77 rfl ?_
  refine ev_iconst dX6_containsPair_78 ?_
  refine ev_iconst dX6_containsPair_79 ?_
  refine ev_callv (ci := 6) (c_boundOf hs (by omega) (by omega) (by omega) (by omega) _) dX6_containsPair_80 tX6_boundOf.1 kX6_31 tX6_boundOf.2.1 tX6_boundOf.2.2.1 rfl (by first | rfl | assumption) tX6_boundOf.2.2.2 ⟨⟨Nat.le_of_ble_eq_true rfl, Nat.le_of_ble_eq_true rfl⟩, Nat.le_of_ble_eq_true rfl, Nat.le_of_ble_eq_true rfl⟩ rfl (Nat.le_of_ble_eq_true rfl) ?_
  rintro r K' M' P' ⟨rfl, rfl, rfl, hM'⟩
  rw [hM']
  clear hM' M'
  refine ev_icmp_gt (tgt := 103) dX6_containsPair_83 (by decide) (by omega) (by omega) (fun q7 => ?_) (fun q7 => ?_)
  · exact no (fun z => absurd z.2.2.2.2.2.2.1 (Int.not_le.mpr q7))
  refine ev_iload_n dX6_containsPair_86 rfl ?_
  refine ev_ineg dX6_containsPair_87 ?_
  refine ev_iload_n dX6_containsPair_88 rfl ?_
  refine ev_isub dX6_containsPair_89 ?_
  first | refine ev_aload_n dX6_containsPair_90 rfl ?_ | refine ev_aloadX_n dX6_containsPair_90 rfl ?_
  refine ev_iconst dX6_containsPair_91 ?_
  refine ev_iconst dX6_containsPair_92 ?_
  refine ev_callv (ci := 6) (c_boundOf hs (by omega) (by omega) (by omega) (by omega) _) dX6_containsPair_93 tX6_boundOf.1 kX6_31 tX6_boundOf.2.1 tX6_boundOf.2.2.1 rfl (by first | rfl | assumption) tX6_boundOf.2.2.2 ⟨⟨Nat.le_of_ble_eq_true rfl, Nat.le_of_ble_eq_true rfl⟩, Nat.le_of_ble_eq_true rfl, Nat.le_of_ble_eq_true rfl⟩ rfl (Nat.le_of_ble_eq_true rfl) ?_
  rintro r K' M' P' ⟨rfl, rfl, rfl, hM'⟩
  rw [hM']
  clear hM' M'
  refine ev_icmp_gt (tgt := 103) dX6_containsPair_96 (by decide) (by omega) (by omega) (fun q8 => ?_) (fun q8 => ?_)
  · exact no (fun z => absurd z.2.2.2.2.2.2.2 (Int.not_le.mpr q8))
  refine ev_iconst dX6_containsPair_99 ?_
  refine ev_goto (tgt := 104) dX6_containsPair_100 (by decide) ?_
  exact ev_ireturn dX6_containsPair_104 (okR_z rfl (by first | exact Or.inl rfl | exact Or.inr rfl | assumption)) (rz ⟨yn_1 ⟨q1, q2, q3, q4, q5, q6, q7, q8⟩, rfl⟩)
theorem tdiv2_bd {x B : Int} (h : -B ≤ x) (h2 : x ≤ B) (hB : 0 ≤ B) : -B ≤ x.tdiv 2 ∧ x.tdiv 2 ≤ B := by
  have h5 : (x.tdiv 2).natAbs = x.natAbs / 2 := Int.natAbs_tdiv x 2
  omega
theorem c_roomFor {c : Nat} (hs : isSh c) {q x0 x1 : Int} (hq : 0 ≤ q) (hq2 : q < 6) (h0 : -8 ≤ x0) (h1 : x0 ≤ 8) (h2 : -8 ≤ x1) (h3 : x1 ≤ 8) (M : Mm) (hB : bdd 1000 (M (c + 1))) : Cm mX6_roomFor [vR c, vI q, vI x0, vI x1] M (fun r M' => r = some (vI (roomF (M (c + 1)) q x0 x1)) ∧ M' = M) := by
  obtain ⟨hs1, hs2, hs3⟩ := id hs
  refine cm_of (by decide +kernel) (fun _ => trivial) (Nat.le_of_ble_eq_true rfl) ?_
  have b0 := hB (q * 6 + 0) (by omega) (by omega)
  have b1 := hB (q * 6 + 1) (by omega) (by omega)
  have b2 := hB (q * 6 + 2) (by omega) (by omega)
  have b3 := hB (q * 6 + 3) (by omega) (by omega)
  have b4 := hB (q * 6 + q) (by omega) (by omega)
  have b5 := tdiv2_bd b4.1 b4.2 (by omega)
  first | refine ev_aload_n dX6_roomFor_0 rfl ?_ | refine ev_aloadX_n dX6_roomFor_0 rfl ?_
  refine ev_iload_n dX6_roomFor_1 rfl ?_
  refine ev_iconst dX6_roomFor_2 ?_
  refine ev_callv (ci := 6) (c_boundOf hs (by omega) (by omega) (by omega) (by omega) _) dX6_roomFor_3 tX6_boundOf.1 kX6_31 tX6_boundOf.2.1 tX6_boundOf.2.2.1 rfl (by first | rfl | assumption) tX6_boundOf.2.2.2 ⟨⟨Nat.le_of_ble_eq_true rfl, Nat.le_of_ble_eq_true rfl⟩, Nat.le_of_ble_eq_true rfl, Nat.le_of_ble_eq_true rfl⟩ rfl (Nat.le_of_ble_eq_true rfl) ?_
  rintro r K' M' P' ⟨rfl, rfl, rfl, hM'⟩
  rw [hM']
  clear hM' M'
  refine ev_iload_n dX6_roomFor_6 rfl ?_
  refine ev_isub dX6_roomFor_7 ?_
  first | refine ev_aload_n dX6_roomFor_8 rfl ?_ | refine ev_aloadX_n dX6_roomFor_8 rfl ?_
  refine ev_iload_n dX6_roomFor_9 rfl ?_
  refine ev_iconst dX6_roomFor_10 ?_
  refine ev_callv (ci := 6) (c_boundOf hs (by omega) (by omega) (by omega) (by omega) _) dX6_roomFor_11 tX6_boundOf.1 kX6_31 tX6_boundOf.2.1 tX6_boundOf.2.2.1 rfl (by first | rfl | assumption) tX6_boundOf.2.2.2 ⟨⟨Nat.le_of_ble_eq_true rfl, Nat.le_of_ble_eq_true rfl⟩, Nat.le_of_ble_eq_true rfl, Nat.le_of_ble_eq_true rfl⟩ rfl (Nat.le_of_ble_eq_true rfl) ?_
  rintro r K' M' P' ⟨rfl, rfl, rfl, hM'⟩
  rw [hM']
  clear hM' M'
  refine ev_iload_n dX6_roomFor_14 rfl ?_
  refine ev_iadd dX6_roomFor_15 ?_
  refine ev_calls (c_min (by omega) (by omega) _) dX6_roomFor_16 tJ9_min_7cf53.1 kX6_56 tJ9_min_7cf53.2.1 tJ9_min_7cf53.2.2 ⟨⟨Nat.le_of_ble_eq_true rfl, Nat.le_of_ble_eq_true rfl⟩, Nat.le_of_ble_eq_true rfl, Nat.le_of_ble_eq_true rfl⟩ rfl (Nat.le_of_ble_eq_true rfl) ?_
  rintro r K' M' P' ⟨rfl, rfl, rfl, hM'⟩
  rw [hM']
  clear hM' M'
  refine ev_istore dX6_roomFor_19 (by decide) ?_
  first | refine ev_aload_n dX6_roomFor_21 rfl ?_ | refine ev_aloadX_n dX6_roomFor_21 rfl ?_
  refine ev_iload_n dX6_roomFor_22 rfl ?_
  refine ev_iconst dX6_roomFor_23 ?_
  refine ev_callv (ci := 6) (c_boundOf hs (by omega) (by omega) (by omega) (by omega) _) dX6_roomFor_24 tX6_boundOf.1 kX6_31 tX6_boundOf.2.1 tX6_boundOf.2.2.1 rfl (by first | rfl | assumption) tX6_boundOf.2.2.2 ⟨⟨Nat.le_of_ble_eq_true rfl, Nat.le_of_ble_eq_true rfl⟩, Nat.le_of_ble_eq_true rfl, Nat.le_of_ble_eq_true rfl⟩ rfl (Nat.le_of_ble_eq_true rfl) ?_
  rintro r K' M' P' ⟨rfl, rfl, rfl, hM'⟩
  rw [hM']
  clear hM' M'
  refine ev_iload_n dX6_roomFor_27 rfl ?_
  refine ev_isub dX6_roomFor_28 ?_
  first | refine ev_aload_n dX6_roomFor_29 rfl ?_ | refine ev_aloadX_n dX6_roomFor_29 rfl ?_
  refine ev_iload_n dX6_roomFor_30 rfl ?_
  refine ev_iconst dX6_roomFor_31 ?_
  refine ev_callv (ci := 6) (c_boundOf hs (by omega) (by omega) (by omega) (by omega) _) dX6_roomFor_32 tX6_boundOf.1 kX6_31 tX6_boundOf.2.1 tX6_boundOf.2.2.1 rfl (by first | rfl | assumption) tX6_boundOf.2.2.2 ⟨⟨Nat.le_of_ble_eq_true rfl, Nat.le_of_ble_eq_true rfl⟩, Nat.le_of_ble_eq_true rfl, Nat.le_of_ble_eq_true rfl⟩ rfl (Nat.le_of_ble_eq_true rfl) ?_
  rintro r K' M' P' ⟨rfl, rfl, rfl, hM'⟩
  rw [hM']
  clear hM' M'
  refine ev_iload_n dX6_roomFor_35 rfl ?_
  refine ev_iadd dX6_roomFor_36 ?_
  refine ev_calls (c_min (by omega) (by omega) _) dX6_roomFor_37 tJ9_min_7cf53.1 kX6_56 tJ9_min_7cf53.2.1 tJ9_min_7cf53.2.2 ⟨⟨Nat.le_of_ble_eq_true rfl, Nat.le_of_ble_eq_true rfl⟩, Nat.le_of_ble_eq_true rfl, Nat.le_of_ble_eq_true rfl⟩ rfl (Nat.le_of_ble_eq_true rfl) ?_
  rintro r K' M' P' ⟨rfl, rfl, rfl, hM'⟩
  rw [hM']
  clear hM' M'
  refine ev_istore dX6_roomFor_40 (by decide) ?_
  first | refine ev_aload_n dX6_roomFor_42 rfl ?_ | refine ev_aloadX_n dX6_roomFor_42 rfl ?_
  refine ev_iload_n dX6_roomFor_43 rfl ?_
  refine ev_iload_n dX6_roomFor_44 rfl ?_
  refine ev_callv (ci := 6) (c_boundOf hs (by omega) (by omega) (by omega) (by omega) _) dX6_roomFor_45 tX6_boundOf.1 kX6_31 tX6_boundOf.2.1 tX6_boundOf.2.2.1 rfl (by first | rfl | assumption) tX6_boundOf.2.2.2 ⟨⟨Nat.le_of_ble_eq_true rfl, Nat.le_of_ble_eq_true rfl⟩, Nat.le_of_ble_eq_true rfl, Nat.le_of_ble_eq_true rfl⟩ rfl (Nat.le_of_ble_eq_true rfl) ?_
  rintro r K' M' P' ⟨rfl, rfl, rfl, hM'⟩
  rw [hM']
  clear hM' M'
  refine ev_iconst dX6_roomFor_48 ?_
  refine ev_idiv dX6_roomFor_49 (by omega) (by omega) (by omega) (by omega) ?_
  refine ev_iload dX6_roomFor_50 rfl ?_
  refine ev_iload dX6_roomFor_52 rfl ?_
  refine ev_calls (c_min (by omega) (by omega) _) dX6_roomFor_54 tJ9_min_7cf53.1 kX6_56 tJ9_min_7cf53.2.1 tJ9_min_7cf53.2.2 ⟨⟨Nat.le_of_ble_eq_true rfl, Nat.le_of_ble_eq_true rfl⟩, Nat.le_of_ble_eq_true rfl, Nat.le_of_ble_eq_true rfl⟩ rfl (Nat.le_of_ble_eq_true rfl) ?_
  rintro r K' M' P' ⟨rfl, rfl, rfl, hM'⟩
  rw [hM']
  clear hM' M'
  refine ev_calls (c_min (by omega) (by omega) _) dX6_roomFor_57 tJ9_min_7cf53.1 kX6_56 tJ9_min_7cf53.2.1 tJ9_min_7cf53.2.2 ⟨⟨Nat.le_of_ble_eq_true rfl, Nat.le_of_ble_eq_true rfl⟩, Nat.le_of_ble_eq_true rfl, Nat.le_of_ble_eq_true rfl⟩ rfl (Nat.le_of_ble_eq_true rfl) ?_
  rintro r K' M' P' ⟨rfl, rfl, rfl, hM'⟩
  rw [hM']
  clear hM' M'
  exact ev_ireturn dX6_roomFor_60 ⟨_, rfl, rfl⟩ (rz ⟨rfl, rfl⟩)
def hasP (M : Mm) (c : Nat) (x0 x1 x2 : Int) : Prop := M c 1 = 0 ∧ pairP (M (c + 1)) x0 x1 ∧ x2 ≤ roomF (M (c + 1)) 4 x0 x1 ∧ -x2 ≤ roomF (M (c + 1)) 5 x0 x1
theorem roomF_bd {f : Int → Int} {q x0 x1 : Int} (hq : 0 ≤ q) (hq2 : q < 6) (h0 : -8 ≤ x0) (h1 : x0 ≤ 8) (h2 : -8 ≤ x1) (h3 : x1 ≤ 8) (hB : bdd 1000 f) : -2000 ≤ roomF f q x0 x1 ∧ roomF f q x0 x1 ≤ 2000 := by
  have b0 := hB (q * 6 + 0) (by omega) (by omega)
  have b1 := hB (q * 6 + 1) (by omega) (by omega)
  have b2 := hB (q * 6 + 2) (by omega) (by omega)
  have b3 := hB (q * 6 + 3) (by omega) (by omega)
  have b4 := hB (q * 6 + q) (by omega) (by omega)
  have b5 := tdiv2_bd b4.1 b4.2 (by omega)
  unfold roomF mt
  omega
theorem c_contains {c : Nat} (hs : isSh c) {x0 x1 x2 : Int} (h0 : -8 ≤ x0) (h1 : x0 ≤ 8) (h2 : -8 ≤ x1) (h3 : x1 ≤ 8) (h4 : -8 ≤ x2) (h5 : x2 ≤ 8) (M : Mm) (he : M c 1 = 0 ∨ M c 1 = 1) (hB : bdd 1000 (M (c + 1))) : Cm mX6_contains [vR c, vI x0, vI x1, vI x2] M (fun r M' => yn (hasP M c x0 x1 x2) r ∧ M' = M) := by
  obtain ⟨hs1, hs2, hs3⟩ := id hs
  refine cm_of (by decide +kernel) (fun _ => trivial) (Nat.le_of_ble_eq_true rfl) ?_
  have r4 := roomF_bd (q := 4) (by omega) (by omega) h0 h1 h2 h3 hB
  have r5 := roomF_bd (q := 5) (by omega) (by omega) h0 h1 h2 h3 hB
  have no : ¬ hasP M c x0 x1 x2 → Ev mX6_contains 43 [some (vR c), some (vI x0), some (vI x1), some (vI x2)] [] KK M PP 0 0 (Rz mX6_contains (fun r M' => yn (hasP M c x0 x1 x2) r ∧ M' = M)) := by
    intro hn
    refine ev_iconst dX6_contains_43 ?_
    exact ev_ireturn dX6_contains_44 (okR_z rfl (by first | exact Or.inl rfl | exact Or.inr rfl | assumption)) (rz ⟨yn_0 hn, rfl⟩)
  first | refine ev_aload_n dX6_contains_0 rfl ?_ | refine ev_aloadX_n dX6_contains_0 rfl ?_
  refine ev_gI 1 dX6_contains_1 fX6_15 rfl (by first | rfl | assumption) rfl ?_
  refine ev_if_ne (tgt := 43) dX6_contains_4 (by decide) (by omega) (fun q1 => ?_) (fun q1 => ?_)
  · exact no (fun z => q1 z.1)
  first | refine ev_aload_n dX6_contains_7 rfl ?_ | refine ev_aloadX_n dX6_contains_7 rfl ?_
  refine ev_iload_n dX6_contains_8 rfl ?_
  refine ev_iload_n dX6_contains_9 rfl ?_
  refine ev_callv (ci := 6) (c_containsPair hs h0 h1 h2 h3 _ hB) dX6_contains_10 tX6_containsPair.1 kX6_71 tX6_containsPair.2.1 tX6_containsPair.2.2.1 rfl (by first | rfl | assumption) tX6_containsPair.2.2.2 ⟨⟨Nat.le_of_ble_eq_true rfl, Nat.le_of_ble_eq_true rfl⟩, Nat.le_of_ble_eq_true rfl, Nat.le_of_ble_eq_true rfl⟩ rfl (Nat.le_of_ble_eq_true rfl) ?_
  rintro r K' M' P' ⟨rfl, rfl, ⟨v, rfl, hv1, hv2⟩, hM'⟩
  rw [hM']
  clear hM' M'
  refine ev_if_eq (tgt := 43) dX6_contains_13 (by decide) (by omega) (fun q2 => ?_) (fun q2 => ?_)
  · exact no (fun z => by have := hv2.mpr z.2.1; omega)
  refine ev_iload_n dX6_contains_16 rfl ?_
  first | refine ev_aload_n dX6_contains_17 rfl ?_ | refine ev_aloadX_n dX6_contains_17 rfl ?_
  refine ev_iconst dX6_contains_18 ?_
  refine ev_iload_n dX6_contains_19 rfl ?_
  refine ev_iload_n dX6_contains_20 rfl ?_
  refine ev_callv (ci := 6) (c_roomFor hs (by omega) (by omega) h0 h1 h2 h3 _ hB) dX6_contains_21 tX6_roomFor.1 kX6_75 tX6_roomFor.2.1 tX6_roomFor.2.2.1 rfl (by first | rfl | assumption) tX6_roomFor.2.2.2 ⟨⟨Nat.le_of_ble_eq_true rfl, Nat.le_of_ble_eq_true rfl⟩, Nat.le_of_ble_eq_true rfl, Nat.le_of_ble_eq_true rfl⟩ rfl (Nat.le_of_ble_eq_true rfl) ?_
  rintro r K' M' P' ⟨rfl, rfl, rfl, hM'⟩
  rw [hM']
  clear hM' M'
  refine ev_icmp_gt (tgt := 43) dX6_contains_24 (by decide) (by omega) (by omega) (fun q3 => ?_) (fun q3 => ?_)
  · exact no (fun z => by have := z.2.2.1; omega)
  refine ev_iload_n dX6_contains_27 rfl ?_
  refine ev_ineg dX6_contains_28 ?_
  first | refine ev_aload_n dX6_contains_29 rfl ?_ | refine ev_aloadX_n dX6_contains_29 rfl ?_
  refine ev_iconst dX6_contains_30 ?_
  refine ev_iload_n dX6_contains_31 rfl ?_
  refine ev_iload_n dX6_contains_32 rfl ?_
  refine ev_callv (ci := 6) (c_roomFor hs (by omega) (by omega) h0 h1 h2 h3 _ hB) dX6_contains_33 tX6_roomFor.1 kX6_75 tX6_roomFor.2.1 tX6_roomFor.2.2.1 rfl (by first | rfl | assumption) tX6_roomFor.2.2.2 ⟨⟨Nat.le_of_ble_eq_true rfl, Nat.le_of_ble_eq_true rfl⟩, Nat.le_of_ble_eq_true rfl, Nat.le_of_ble_eq_true rfl⟩ rfl (Nat.le_of_ble_eq_true rfl) ?_
  rintro r K' M' P' ⟨rfl, rfl, rfl, hM'⟩
  rw [hM']
  clear hM' M'
  refine ev_icmp_gt (tgt := 43) dX6_contains_36 (by decide) (by omega) (by omega) (fun q4 => ?_) (fun q4 => ?_)
  · exact no (fun z => by have := z.2.2.2; omega)
  refine ev_iconst dX6_contains_39 ?_
  refine ev_goto (tgt := 44) dX6_contains_40 (by decide) ?_
  exact ev_ireturn dX6_contains_44 (okR_z rfl (by first | exact Or.inl rfl | exact Or.inr rfl | assumption)) (rz ⟨yn_1 ⟨q1, hv2.mp (by omega), q3, q4⟩, rfl⟩)
/-- how many points over a pair -/
def cpT (f : Int → Int) (x0 x1 : Int) : Int := if pairP f x0 x1 then max 0 (roomF f 4 x0 x1 + roomF f 5 x0 x1 + 1) else 0
def cpI (f : Int → Int) (x0 : Int) : Nat → Int
  | 0 => 0
  | k + 1 => cpI f x0 k + cpT f x0 (-8 + k)
def cpO (f : Int → Int) : Nat → Int
  | 0 => 0
  | k + 1 => cpO f k + cpI f (-8 + k) 17
theorem cpT_bd {f : Int → Int} {x0 x1 : Int} (h0 : -8 ≤ x0) (h1 : x0 ≤ 8) (h2 : -8 ≤ x1) (h3 : x1 ≤ 8) (hB : bdd 1000 f) : 0 ≤ cpT f x0 x1 ∧ cpT f x0 x1 ≤ 5000 := by
  have r4 := roomF_bd (q := 4) (by omega) (by omega) h0 h1 h2 h3 hB
  have r5 := roomF_bd (q := 5) (by omega) (by omega) h0 h1 h2 h3 hB
  unfold cpT
  split <;> omega
theorem cpI_bd {f : Int → Int} {x0 : Int} (h0 : -8 ≤ x0) (h1 : x0 ≤ 8) (hB : bdd 1000 f) : ∀ k : Nat, k ≤ 17 → 0 ≤ cpI f x0 k ∧ cpI f x0 k ≤ 5000 * k := by
  intro k
  induction k with
  | zero => intro _; simp [cpI]
  | succ k ih =>
    intro hk
    have h2 := ih (by omega)
    have h3 := cpT_bd h0 h1 (x1 := -8 + (k : Int)) (by omega) (by omega) hB
    simp only [cpI]
    omega
theorem cpO_bd {f : Int → Int} (hB : bdd 1000 f) : ∀ k : Nat, k ≤ 17 → 0 ≤ cpO f k ∧ cpO f k ≤ 85000 * k := by
  intro k
  induction k with
  | zero => intro _; simp [cpO]
  | succ k ih =>
    intro hk
    have h2 := ih (by omega)
    have h3 := cpI_bd (x0 := -8 + (k : Int)) (by omega) (by omega) hB 17 (by omega)
    simp only [cpO]
    omega
def cntF (M : Mm) (c : Nat) : Int := if M c 1 = 0 then cpO (M (c + 1)) 17 else 0
theorem c_countPoints {c : Nat} (hs : isSh c) (M : Mm) (he : M c 1 = 0 ∨ M c 1 = 1) (hB : bdd 1000 (M (c + 1))) : Cm mX6_countPoints [vR c] M (fun r M' => r = some (vI (cntF M c)) ∧ M' = M) := by
  obtain ⟨hs1, hs2, hs3⟩ := id hs
  refine cm_of (by decide +kernel) (fun _ => trivial) (Nat.le_of_ble_eq_true rfl) ?_
  first | refine ev_aload_n dX6_countPoints_0 rfl ?_ | refine ev_aloadX_n dX6_countPoints_0 rfl ?_
  refine ev_gI 1 dX6_countPoints_1 fX6_15 rfl (by first | rfl | assumption) rfl ?_
  refine ev_if_eq (tgt := 9) dX6_countPoints_4 (by decide) (by omega) (fun he0 => ?_) (fun he0 => ?_)
  · refine ev_iconst dX6_countPoints_9 ?_
    refine ev_istore_n dX6_countPoints_10 (by decide) ?_
    refine ev_bipush dX6_countPoints_11 ?_
    refine ev_istore_n dX6_countPoints_13 (by decide) ?_
    refine ev_to (L' := [some (vR c), some (vI (cpO (M (c + 1)) 0)), some (vI (-8 + ((0 : Nat) : Int))), none]) (S' := []) (M' := M) (k' := 0) (n' := 0) ?_ ⟨rfl, rfl, rfl, trivial⟩ rfl rfl rfl rfl
    refine up_loop (P := fun i => Ev mX6_countPoints 14 [some (vR c), some (vI (cpO (M (c + 1)) i)), some (vI (-8 + (i : Int))), none] [] KK M PP 0 0 _) 17 ?_ ?_
    · refine ev_iload_n dX6_countPoints_14 rfl ?_
      refine ev_bipush dX6_countPoints_15 ?_
      refine ev_icmp_gt (tgt := 77) dX6_countPoints_17 (by decide) (by omega) (by omega) (fun h => ?_) (fun h => ?_)
      · refine ev_iload_n dX6_countPoints_77 rfl ?_
        exact ev_ireturn dX6_countPoints_78 ⟨_, rfl, rfl⟩ (rz ⟨by rw [cntF, if_pos he0], rfl⟩)
      · omega
    · intro i hi hP
      have o1 := cpO_bd hB i (by omega)
      generalize ho : cpO (M (c + 1)) i = o at o1 ⊢
      refine ev_iload_n dX6_countPoints_14 rfl ?_
      refine ev_bipush dX6_countPoints_15 ?_
      refine ev_icmp_gt (tgt := 77) dX6_countPoints_17 (by decide) (by omega) (by omega) (fun h => ?_) (fun h => ?_)
      · omega
      refine ev_bipush dX6_countPoints_20 ?_
      refine ev_istore_n dX6_countPoints_22 (by decide) ?_
      refine ev_to (L' := [some (vR c), some (vI (o + cpI (M (c + 1)) (-8 + (i : Int)) 0)), some (vI (-8 + (i : Int))), some (vI (-8 + ((0 : Nat) : Int)))]) (S' := []) (M' := M) (k' := 0) (n' := 0) ?_ ⟨rfl, ?_, rfl, rfl, trivial⟩ rfl rfl rfl rfl
      · refine up_loop (P := fun j => Ev mX6_countPoints 23 [some (vR c), some (vI (o + cpI (M (c + 1)) (-8 + (i : Int)) j)), some (vI (-8 + (i : Int))), some (vI (-8 + (j : Int)))] [] KK M PP 0 0 _) 17 ?_ ?_
        · refine ev_iload_n dX6_countPoints_23 rfl ?_
          refine ev_bipush dX6_countPoints_24 ?_
          refine ev_icmp_gt (tgt := 71) dX6_countPoints_26 (by decide) (by omega) (by omega) (fun hx => ?_) (fun hx => ?_)
          · refine ev_iinc dX6_countPoints_71 rfl (by decide) ?_
            refine ev_goto (tgt := 14) dX6_countPoints_74 (by decide) ?_
            refine ev_to hP ⟨rfl, ?_, ?_, trivial⟩ rfl rfl rfl rfl
            · show some (some (vI _)) = some (some (vI (cpO (M (c + 1)) i + cpI (M (c + 1)) (-8 + (i : Int)) 17)))
              rw [ho]
            · show some (some (vI (-8 + (i : Int) + 1))) = some (some (vI (-8 + ((i + 1 : Nat) : Int))))
              congr 3 <;> omega
          · omega
        · intro j hj hQ
          have i1 := cpI_bd (x0 := -8 + (i : Int)) (by omega) (by omega) hB j (by omega)
          have t1 := cpT_bd (x0 := -8 + (i : Int)) (x1 := -8 + (j : Int)) (by omega) (by omega) (by omega) (by omega) hB
          have r4 := roomF_bd (q := 4) (x0 := -8 + (i : Int)) (x1 := -8 + (j : Int)) (by omega) (by omega) (by omega) (by omega) (by omega) (by omega) hB
          have r5 := roomF_bd (q := 5) (x0 := -8 + (i : Int)) (x1 := -8 + (j : Int)) (by omega) (by omega) (by omega) (by omega) (by omega) (by omega) hB
          have e : cpI (M (c + 1)) (-8 + (i : Int)) (j + 1) = cpI (M (c + 1)) (-8 + (i : Int)) j + cpT (M (c + 1)) (-8 + (i : Int)) (-8 + (j : Int)) := rfl
          rw [e] at hQ
          generalize cpI (M (c + 1)) (-8 + (i : Int)) j = u at i1 hQ ⊢
          refine ev_iload_n dX6_countPoints_23 rfl ?_
          refine ev_bipush dX6_countPoints_24 ?_
          refine ev_icmp_gt (tgt := 71) dX6_countPoints_26 (by decide) (by omega) (by omega) (fun hx => ?_) (fun hx => ?_)
          · omega
          first | refine ev_aload_n dX6_countPoints_29 rfl ?_ | refine ev_aloadX_n dX6_countPoints_29 rfl ?_
          refine ev_iload_n dX6_countPoints_30 rfl ?_
          refine ev_iload_n dX6_countPoints_31 rfl ?_
          refine ev_callv (ci := 6) (c_containsPair hs (by omega) (by omega) (by omega) (by omega) _ hB) dX6_countPoints_32 tX6_containsPair.1 kX6_71 tX6_containsPair.2.1 tX6_containsPair.2.2.1 rfl (by first | rfl | assumption) tX6_containsPair.2.2.2 ⟨⟨Nat.le_of_ble_eq_true rfl, Nat.le_of_ble_eq_true rfl⟩, Nat.le_of_ble_eq_true rfl, Nat.le_of_ble_eq_true rfl⟩ rfl (Nat.le_of_ble_eq_true rfl) ?_
          rintro r K' M' P' ⟨rfl, rfl, ⟨v, rfl, hv1, hv2⟩, hM'⟩
          rw [hM']
          clear hM' M'
          refine ev_if_ne (tgt := 41) dX6_countPoints_35 (by decide) (by omega) (fun q2 => ?_) (fun q2 => ?_)
          · have hp := hv2.mp (by omega)
            refine ev_iload_n dX6_countPoints_41 rfl ?_
            refine ev_iconst dX6_countPoints_42 ?_
            first | refine ev_aload_n dX6_countPoints_43 rfl ?_ | refine ev_aloadX_n dX6_countPoints_43 rfl ?_
            refine ev_iconst dX6_countPoints_44 ?_
            refine ev_iload_n dX6_countPoints_45 rfl ?_
            refine ev_iload_n dX6_countPoints_46 rfl ?_
            refine ev_callv (ci := 6) (c_roomFor hs (by omega) (by omega) (by omega) (by omega) (by omega) (by omega) _ hB) dX6_countPoints_47 tX6_roomFor.1 kX6_75 tX6_roomFor.2.1 tX6_roomFor.2.2.1 rfl (by first | rfl | assumption) tX6_roomFor.2.2.2 ⟨⟨Nat.le_of_ble_eq_true rfl, Nat.le_of_ble_eq_true rfl⟩, Nat.le_of_ble_eq_true rfl, Nat.le_of_ble_eq_true rfl⟩ rfl (Nat.le_of_ble_eq_true rfl) ?_
            rintro r K' M' P' ⟨rfl, rfl, rfl, hM'⟩
            rw [hM']
            clear hM' M'
            first | refine ev_aload_n dX6_countPoints_50 rfl ?_ | refine ev_aloadX_n dX6_countPoints_50 rfl ?_
            refine ev_iconst dX6_countPoints_51 ?_
            refine ev_iload_n dX6_countPoints_52 rfl ?_
            refine ev_iload_n dX6_countPoints_53 rfl ?_
            refine ev_callv (ci := 6) (c_roomFor hs (by omega) (by omega) (by omega) (by omega) (by omega) (by omega) _ hB) dX6_countPoints_54 tX6_roomFor.1 kX6_75 tX6_roomFor.2.1 tX6_roomFor.2.2.1 rfl (by first | rfl | assumption) tX6_roomFor.2.2.2 ⟨⟨Nat.le_of_ble_eq_true rfl, Nat.le_of_ble_eq_true rfl⟩, Nat.le_of_ble_eq_true rfl, Nat.le_of_ble_eq_true rfl⟩ rfl (Nat.le_of_ble_eq_true rfl) ?_
            rintro r K' M' P' ⟨rfl, rfl, rfl, hM'⟩
            rw [hM']
            clear hM' M'
            refine ev_iadd dX6_countPoints_57 ?_
            refine ev_iconst dX6_countPoints_58 ?_
            refine ev_iadd dX6_countPoints_59 ?_
            refine ev_calls (c_max (by omega) (by omega) _) dX6_countPoints_60 tJ9_max_7cf53.1 kX6_65 tJ9_max_7cf53.2.1 tJ9_max_7cf53.2.2 ⟨⟨Nat.le_of_ble_eq_true rfl, Nat.le_of_ble_eq_true rfl⟩, Nat.le_of_ble_eq_true rfl, Nat.le_of_ble_eq_true rfl⟩ rfl (Nat.le_of_ble_eq_true rfl) ?_
            rintro r K' M' P' ⟨rfl, rfl, rfl, hM'⟩
            rw [hM']
            clear hM' M'
            refine ev_iadd dX6_countPoints_63 ?_
            refine ev_istore_n dX6_countPoints_64 (by decide) ?_
            refine ev_iinc dX6_countPoints_65 rfl (by decide) ?_
            refine ev_goto (tgt := 23) dX6_countPoints_68 (by decide) ?_
            refine ev_to hQ ⟨rfl, ?_, rfl, ?_, trivial⟩ rfl rfl rfl rfl
            · show some (some (vI _)) = some (some (vI _))
              rw [cpT, if_pos hp]
              congr 3
              omega
            · show some (some (vI (-8 + (j : Int) + 1))) = some (some (vI (-8 + ((j + 1 : Nat) : Int))))
              congr 3 <;> omega
          · have hp : ¬ pairP (M (c + 1)) (-8 + (i : Int)) (-8 + (j : Int)) := fun z => by have := hv2.mpr z; omega
            refine ev_goto (tgt := 65) dX6_countPoints_38 (by decide) ?_
            refine ev_iinc dX6_countPoints_65 rfl (by decide) ?_
            refine ev_goto (tgt := 23) dX6_countPoints_68 (by decide) ?_
            refine ev_to hQ ⟨rfl, ?_, rfl, ?_, trivial⟩ rfl rfl rfl rfl
            · show some (some (vI _)) = some (some (vI _))
              rw [cpT, if_neg hp]
              congr 3
              omega
            · show some (some (vI (-8 + (j : Int) + 1))) = some (some (vI (-8 + ((j + 1 : Nat) : Int))))
              congr 3 <;> omega
      · show some (some (vI o)) = some (some (vI (o + 0)))
        rw [Int.add_zero]
  · refine ev_iconst dX6_countPoints_7 ?_
    exact ev_ireturn dX6_countPoints_8 ⟨_, rfl, rfl⟩ (rz ⟨by rw [cntF, if_neg he0], rfl⟩)
