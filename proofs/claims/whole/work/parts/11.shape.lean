/-! ===== Shape ===== -/
theorem c_boundOf {c : Nat} (hs : isSh c) {a b : Int} (h1 : 0 ≤ a) (h2 : a < 6) (h3 : 0 ≤ b) (h4 : b < 6) (M : Mm) : Cm mX6_boundOf [vR c, vI a, vI b] M (fun r M' => r = some (vI (M (c + 1) (a * 6 + b))) ∧ M' = M) := by
  obtain ⟨hs1, hs2, hs3⟩ := hs
  refine cm_of (by decide) (fun _ => trivial) (by decide) ?_
  first | refine ev_aload_n dX6_boundOf_0 rfl ?_ | refine ev_aloadX_n dX6_boundOf_0 rfl ?_
  refine ev_getR dX6_boundOf_1 fX6_9 rfl (by first | rfl | assumption) (by first | rfl | assumption) ?_
  refine ev_iload_n dX6_boundOf_4 rfl ?_
  refine ev_bipush dX6_boundOf_5 ?_
  refine ev_imul dX6_boundOf_7 ?_
  refine ev_iload_n dX6_boundOf_8 rfl ?_
  refine ev_iadd dX6_boundOf_9 ?_
  refine ev_iaload dX6_boundOf_10 (by first | rfl | assumption) (by omega) (by omega) (by decide) ?_
  exact ev_ireturn dX6_boundOf_11 ⟨_, rfl, rfl⟩ (rz ⟨rfl, rfl⟩)
theorem c_setBound {c : Nat} (hs : isSh c) {a b z : Int} (h1 : 0 ≤ a) (h2 : a < 6) (h3 : 0 ≤ b) (h4 : b < 6) (M : Mm) : Cm mX6_setBound [vR c, vI a, vI b, vI z] M (fun r M' => r = none ∧ M' = upM (upM M (c + 1) (a * 6 + b) z) (c + 1) (b * 6 + a) z) := by
  obtain ⟨hs1, hs2, hs3⟩ := hs
  refine cm_of (by decide) (fun _ => trivial) (by decide) ?_
  first | refine ev_aload_n dX6_setBound_0 rfl ?_ | refine ev_aloadX_n dX6_setBound_0 rfl ?_
  refine ev_getR dX6_setBound_1 fX6_9 rfl (by first | rfl | assumption) (by first | rfl | assumption) ?_
  refine ev_iload_n dX6_setBound_4 rfl ?_
  refine ev_bipush dX6_setBound_5 ?_
  refine ev_imul dX6_setBound_7 ?_
  refine ev_iload_n dX6_setBound_8 rfl ?_
  refine ev_iadd dX6_setBound_9 ?_
  refine ev_iload_n dX6_setBound_10 rfl ?_
  refine ev_iastore dX6_setBound_11 (by first | rfl | assumption) (by omega) (by omega) (by decide) ?_
  first | refine ev_aload_n dX6_setBound_12 rfl ?_ | refine ev_aloadX_n dX6_setBound_12 rfl ?_
  refine ev_getR dX6_setBound_13 fX6_9 rfl (by first | rfl | assumption) (by first | rfl | assumption) ?_
  refine ev_iload_n dX6_setBound_16 rfl ?_
  refine ev_bipush dX6_setBound_17 ?_
  refine ev_imul dX6_setBound_19 ?_
  refine ev_iload_n dX6_setBound_20 rfl ?_
  refine ev_iadd dX6_setBound_21 ?_
  refine ev_iload_n dX6_setBound_22 rfl ?_
  refine ev_iastore dX6_setBound_23 (by first | rfl | assumption) (by omega) (by omega) (by decide) ?_
  exact ev_return dX6_setBound_24 rfl (rz ⟨rfl, rfl⟩)
theorem c_limit {c : Nat} (hs : isSh c) {a b z : Int} (h1 : 0 ≤ a) (h2 : a < 6) (h3 : 0 ≤ b) (h4 : b < 6) (hz : inR z) (M : Mm) (hm : inR (M (c + 1) (a * 6 + b))) : Cm mX6_limit [vR c, vI a, vI b, vI z] M (fun r M' => r = none ∧ M' = if z < M (c + 1) (a * 6 + b) then upM (upM M (c + 1) (a * 6 + b) z) (c + 1) (b * 6 + a) z else M) := by
  obtain ⟨hs1, hs2, hs3⟩ := id hs
  refine cm_of (by decide) (fun _ => trivial) (by decide) ?_
  refine ev_iload_n dX6_limit_0 rfl ?_
  first | refine ev_aload_n dX6_limit_1 rfl ?_ | refine ev_aloadX_n dX6_limit_1 rfl ?_
  refine ev_iload_n dX6_limit_2 rfl ?_
  refine ev_iload_n dX6_limit_3 rfl ?_
  refine ev_callv (ci := 6) (c_boundOf hs h1 h2 h3 h4 M) dX6_limit_4 tX6_boundOf.1 kX6_31 tX6_boundOf.2.1 tX6_boundOf.2.2.1 rfl (by first | rfl | assumption) tX6_boundOf.2.2.2 ⟨⟨by decide, by decide⟩, by decide, by decide⟩ rfl (by decide) ?_
  rintro r K' M' P' ⟨rfl, rfl, rfl, rfl⟩
  refine ev_icmp_ge (tgt := 17) dX6_limit_7 (by decide) (by omega) (by omega) (fun h => ?_) (fun h => ?_)
  · exact ev_return dX6_limit_17 rfl (rz ⟨rfl, by rw [if_neg (by omega)]⟩)
  · first | refine ev_aload_n dX6_limit_10 rfl ?_ | refine ev_aloadX_n dX6_limit_10 rfl ?_
    refine ev_iload_n dX6_limit_11 rfl ?_
    refine ev_iload_n dX6_limit_12 rfl ?_
    refine ev_iload_n dX6_limit_13 rfl ?_
    refine ev_callv (ci := 6) (c_setBound hs h1 h2 h3 h4 M) dX6_limit_14 tX6_setBound.1 kX6_35 tX6_setBound.2.1 tX6_setBound.2.2.1 rfl (by first | rfl | assumption) tX6_setBound.2.2.2 ⟨⟨by decide, by decide⟩, by decide, by decide⟩ rfl (by decide) ?_
    rintro r K' M' P' ⟨rfl, rfl, rfl, rfl⟩
    exact ev_return dX6_limit_17 rfl (rz ⟨rfl, by rw [if_pos h]⟩)
