/-! ===== the reference: share, compare ===== -/
theorem k_bitsOf {p : Int} (hp0 : 0 ≤ p) (hp : p ≤ 4913) (M : Mm) : Cm mX9_bitsOf [vI p] M (fun r M' => r = some (vL (shB p)) ∧ M' = M) := by
  refine cm_of (by decide +kernel) (fun _ => trivial) (Nat.le_of_ble_eq_true rfl) ?_
  refine ev_iload_n dX9_bitsOf_0 rfl ?_
  refine ev_if_ne (tgt := 6) dX9_bitsOf_1 (by decide) (by omega) (fun h0 => ?_) (fun h0 => ?_)
  case refine_2 =>
    refine ev_lconst (z := 0) dX9_bitsOf_4 ?_
    exact ev_lreturn dX9_bitsOf_5 rfl (rz ⟨by unfold shB; rw [if_pos (by omega)], rfl⟩)
  have hr := dbl_rng 13 p 1023 (by omega) (by omega) (by omega)
  have hB : shB p = shX p * 4503599627370496 + (shU p - 4913) * 4503599627370496 / 4913 + (if 4913 < 2 * ((shU p - 4913) * 4503599627370496 % 4913) then 1 else 0) := by unfold shB; rw [if_neg (by omega)]
  have tail : Ev mX9_bitsOf 34 [some (vI p), some (vL (shU p)), none, some (vL (shX p)), none, none, none, none, none, none] [] KK M PP 0 0 (Rz mX9_bitsOf (fun r M' => r = some (vL (shB p)) ∧ M' = M)) := by
    rw [hB]
    have hU : 4913 ≤ shU p ∧ shU p < 9826 := ⟨hr.1, hr.2.1⟩
    have hE : 1010 ≤ shX p ∧ shX p ≤ 1023 := ⟨by have := hr.2.2.1; unfold shX; omega, hr.2.2.2⟩
    clear hB hr
    generalize shU p = u at *
    generalize shX p = e at *
    have lp3 : Ev mX9_bitsOf 73 [some (vI p), none, none, some (vL e), none, some (vL (u * 1099511627776 / 4913)), none, some (vL (u * 1099511627776 % 4913)), none, some (vI 0)] [] KK M PP 0 0 (Rz mX9_bitsOf (fun r M' => r = some (vL (e * 4503599627370496 + (u - 4913) * 4503599627370496 / 4913 + (if 4913 < 2 * ((u - 4913) * 4503599627370496 % 4913) then 1 else 0))) ∧ M' = M)) := by
      refine ev_to (L' := [some (vI p), none, none, some (vL e), none, some (vL (dvQ u (40 + (0 : Nat)))), none, some (vL (dvR u (40 + (0 : Nat)))), none, some (vI ((0 : Nat) : Int))]) (S' := []) (M' := M) (k' := 0) (n' := 0) ?_ (by repeat (first | exact trivial | refine ⟨rfl, ?_⟩)) rfl rfl rfl rfl
      refine up_loop (P := fun i => Ev mX9_bitsOf 73 [some (vI p), none, none, some (vL e), none, some (vL (dvQ u (40 + i))), none, some (vL (dvR u (40 + i))), none, some (vI (i : Int))] [] KK (M) PP 0 0 _) 12 ?_ ?_
      · have r52 : dvR u (40 + 12) = u * 4503599627370496 % 4913 := rfl
        have q52 : dvQ u (40 + 12) = u * 4503599627370496 / 4913 := rfl
        rw [r52, q52]
        have c1 := cmpL_c (2 * (u * 4503599627370496 % 4913)) 4913
        refine ev_iload dX9_bitsOf_73 rfl ?_
        refine ev_bipush dX9_bitsOf_75 ?_
        refine ev_icmp_ge (tgt := 138) dX9_bitsOf_77 (by decide) (by omega) (by omega) (fun hb77 => ?_) (fun hb77 => ?_)
        · refine ev_lload dX9_bitsOf_138 rfl ?_
          refine ev_ldc2 (z := 2) dX9_bitsOf_140 jX9_247 (by decide) ?_
          refine ev_lload dX9_bitsOf_143 rfl ?_
          refine ev_lmul dX9_bitsOf_145 ?_
          refine ev_ldc2 (z := 4913) dX9_bitsOf_146 jX9_245 (by decide) ?_
          refine ev_lcmp dX9_bitsOf_149 (by omega) (by omega) ?_
          refine ev_if_gt (tgt := 177) dX9_bitsOf_150 (by decide) (by omega) (fun hb150 => ?_) (fun hb150 => ?_)
          · refine ev_lconst (z := 1) dX9_bitsOf_177 ?_
            refine ev_goto (tgt := 182) dX9_bitsOf_178 (by decide) ?_
            refine ev_ladd dX9_bitsOf_182 ?_
            refine ev_lstore dX9_bitsOf_183 (by decide) ?_
            refine ev_lload_n dX9_bitsOf_185 rfl ?_
            refine ev_bipush dX9_bitsOf_186 ?_
            refine ev_lshl dX9_bitsOf_188 ?_
            rw [shl_v hE.1 hE.2]
            refine ev_lload dX9_bitsOf_189 rfl ?_
            refine ev_ladd dX9_bitsOf_191 ?_
            refine ev_ldc2 (z := 4503599627370496) dX9_bitsOf_192 jX9_249 (by decide) ?_
            refine ev_lsub dX9_bitsOf_195 ?_
            exact ev_lreturn dX9_bitsOf_196 rfl (rz ⟨congrArg (fun z => some (vL z)) (by split <;> omega), rfl⟩)
          · refine ev_ldc2 (z := 2) dX9_bitsOf_153 jX9_247 (by decide) ?_
            refine ev_lload dX9_bitsOf_156 rfl ?_
            refine ev_lmul dX9_bitsOf_158 ?_
            refine ev_ldc2 (z := 4913) dX9_bitsOf_159 jX9_245 (by decide) ?_
            refine ev_lcmp dX9_bitsOf_162 (by omega) (by omega) ?_
            refine ev_if_ne (tgt := 181) dX9_bitsOf_163 (by decide) (by omega) (fun hb163 => ?_) (fun hb163 => ?_)
            · refine ev_lconst (z := 0) dX9_bitsOf_181 ?_
              refine ev_ladd dX9_bitsOf_182 ?_
              refine ev_lstore dX9_bitsOf_183 (by decide) ?_
              refine ev_lload_n dX9_bitsOf_185 rfl ?_
              refine ev_bipush dX9_bitsOf_186 ?_
              refine ev_lshl dX9_bitsOf_188 ?_
              rw [shl_v hE.1 hE.2]
              refine ev_lload dX9_bitsOf_189 rfl ?_
              refine ev_ladd dX9_bitsOf_191 ?_
              refine ev_ldc2 (z := 4503599627370496) dX9_bitsOf_192 jX9_249 (by decide) ?_
              refine ev_lsub dX9_bitsOf_195 ?_
              exact ev_lreturn dX9_bitsOf_196 rfl (rz ⟨congrArg (fun z => some (vL z)) (by split <;> omega), rfl⟩)
            · refine ev_lload dX9_bitsOf_166 rfl ?_
              refine ev_ldc2 (z := 2) dX9_bitsOf_168 jX9_247 (by decide) ?_
              refine ev_lrem dX9_bitsOf_171 (by omega) (by omega) (by omega) (by omega) ?_
              rw [tmod_nn (by omega)]
              refine ev_lconst (z := 1) dX9_bitsOf_172 ?_
              have c2 := cmpL_c (u * 4503599627370496 / 4913 % 2) 1
              refine ev_lcmp dX9_bitsOf_173 (by omega) (by omega) ?_
              refine ev_if_ne (tgt := 181) dX9_bitsOf_174 (by decide) (by omega) (fun hb174 => ?_) (fun hb174 => ?_)
              · refine ev_lconst (z := 0) dX9_bitsOf_181 ?_
                refine ev_ladd dX9_bitsOf_182 ?_
                refine ev_lstore dX9_bitsOf_183 (by decide) ?_
                refine ev_lload_n dX9_bitsOf_185 rfl ?_
                refine ev_bipush dX9_bitsOf_186 ?_
                refine ev_lshl dX9_bitsOf_188 ?_
                rw [shl_v hE.1 hE.2]
                refine ev_lload dX9_bitsOf_189 rfl ?_
                refine ev_ladd dX9_bitsOf_191 ?_
                refine ev_ldc2 (z := 4503599627370496) dX9_bitsOf_192 jX9_249 (by decide) ?_
                refine ev_lsub dX9_bitsOf_195 ?_
                exact ev_lreturn dX9_bitsOf_196 rfl (rz ⟨congrArg (fun z => some (vL z)) (by split <;> omega), rfl⟩)
              · refine ev_lconst (z := 1) dX9_bitsOf_177 ?_
                refine ev_goto (tgt := 182) dX9_bitsOf_178 (by decide) ?_
                refine ev_ladd dX9_bitsOf_182 ?_
                refine ev_lstore dX9_bitsOf_183 (by decide) ?_
                refine ev_lload_n dX9_bitsOf_185 rfl ?_
                refine ev_bipush dX9_bitsOf_186 ?_
                refine ev_lshl dX9_bitsOf_188 ?_
                rw [shl_v hE.1 hE.2]
                refine ev_lload dX9_bitsOf_189 rfl ?_
                refine ev_ladd dX9_bitsOf_191 ?_
                refine ev_ldc2 (z := 4503599627370496) dX9_bitsOf_192 jX9_249 (by decide) ?_
                refine ev_lsub dX9_bitsOf_195 ?_
                exact ev_lreturn dX9_bitsOf_196 rfl (rz ⟨congrArg (fun z => some (vL z)) (by split <;> omega), rfl⟩)
        · omega
      · intro i hi hP
        obtain ⟨s1, s2, s3⟩ := dv_s u (40 + i)
        rw [show 40 + (i + 1) = 40 + i + 1 from rfl, s1, s2, Int.mul_comm (dvQ u (40 + i)) 2] at hP
        have c1 := cmpL_c (dvR u (40 + i) * 2) 4913
        refine ev_iload dX9_bitsOf_73 rfl ?_
        refine ev_bipush dX9_bitsOf_75 ?_
        refine ev_icmp_ge (tgt := 138) dX9_bitsOf_77 (by decide) (by omega) (by omega) (fun hb77 => ?_) (fun hb77 => ?_)
        · omega
        · refine ev_lload dX9_bitsOf_80 rfl ?_
          refine ev_ldc2 (z := 2) dX9_bitsOf_82 jX9_247 (by decide) ?_
          refine ev_lmul dX9_bitsOf_85 ?_
          refine ev_lstore dX9_bitsOf_86 (by decide) ?_
          refine ev_ldc2 (z := 2) dX9_bitsOf_88 jX9_247 (by decide) ?_
          refine ev_lload dX9_bitsOf_91 rfl ?_
          refine ev_lmul dX9_bitsOf_93 ?_
          refine ev_lload dX9_bitsOf_94 rfl ?_
          refine ev_ldc2 (z := 4913) dX9_bitsOf_96 jX9_245 (by decide) ?_
          refine ev_lcmp dX9_bitsOf_99 (by omega) (by omega) ?_
          refine ev_if_lt (tgt := 107) dX9_bitsOf_100 (by decide) (by omega) (fun hb100 => ?_) (fun hb100 => ?_)
          · refine ev_lconst (z := 0) dX9_bitsOf_107 ?_
            refine ev_ladd dX9_bitsOf_108 ?_
            refine ev_lstore dX9_bitsOf_109 (by decide) ?_
            refine ev_lload dX9_bitsOf_111 rfl ?_
            refine ev_lload dX9_bitsOf_113 rfl ?_
            refine ev_ldc2 (z := 4913) dX9_bitsOf_115 jX9_245 (by decide) ?_
            refine ev_lcmp dX9_bitsOf_118 (by omega) (by omega) ?_
            refine ev_if_lt (tgt := 128) dX9_bitsOf_119 (by decide) (by omega) (fun hb119 => ?_) (fun hb119 => ?_)
            · refine ev_lconst (z := 0) dX9_bitsOf_128 ?_
              refine ev_lsub dX9_bitsOf_129 ?_
              refine ev_lstore dX9_bitsOf_130 (by decide) ?_
              refine ev_iinc dX9_bitsOf_132 rfl (by decide) ?_
              refine ev_goto (tgt := 73) dX9_bitsOf_135 (by decide) ?_
              first | (exfalso; omega) | (rw [if_pos (by omega), if_pos (by omega)] at hP; simp only [Int.add_zero, Int.sub_zero]; exact ev_to hP (by repeat (first | exact trivial | refine ⟨rfl, ?_⟩)) rfl rfl rfl rfl) | (rw [if_neg (by omega), if_neg (by omega)] at hP; exact ev_to hP (by repeat (first | exact trivial | refine ⟨rfl, ?_⟩)) rfl rfl rfl rfl)
            · refine ev_ldc2 (z := 4913) dX9_bitsOf_122 jX9_245 (by decide) ?_
              refine ev_goto (tgt := 129) dX9_bitsOf_125 (by decide) ?_
              refine ev_lsub dX9_bitsOf_129 ?_
              refine ev_lstore dX9_bitsOf_130 (by decide) ?_
              refine ev_iinc dX9_bitsOf_132 rfl (by decide) ?_
              refine ev_goto (tgt := 73) dX9_bitsOf_135 (by decide) ?_
              first | (exfalso; omega) | (rw [if_pos (by omega), if_pos (by omega)] at hP; simp only [Int.add_zero, Int.sub_zero]; exact ev_to hP (by repeat (first | exact trivial | refine ⟨rfl, ?_⟩)) rfl rfl rfl rfl) | (rw [if_neg (by omega), if_neg (by omega)] at hP; exact ev_to hP (by repeat (first | exact trivial | refine ⟨rfl, ?_⟩)) rfl rfl rfl rfl)
          · refine ev_lconst (z := 1) dX9_bitsOf_103 ?_
            refine ev_goto (tgt := 108) dX9_bitsOf_104 (by decide) ?_
            refine ev_ladd dX9_bitsOf_108 ?_
            refine ev_lstore dX9_bitsOf_109 (by decide) ?_
            refine ev_lload dX9_bitsOf_111 rfl ?_
            refine ev_lload dX9_bitsOf_113 rfl ?_
            refine ev_ldc2 (z := 4913) dX9_bitsOf_115 jX9_245 (by decide) ?_
            refine ev_lcmp dX9_bitsOf_118 (by omega) (by omega) ?_
            refine ev_if_lt (tgt := 128) dX9_bitsOf_119 (by decide) (by omega) (fun hb119 => ?_) (fun hb119 => ?_)
            · refine ev_lconst (z := 0) dX9_bitsOf_128 ?_
              refine ev_lsub dX9_bitsOf_129 ?_
              refine ev_lstore dX9_bitsOf_130 (by decide) ?_
              refine ev_iinc dX9_bitsOf_132 rfl (by decide) ?_
              refine ev_goto (tgt := 73) dX9_bitsOf_135 (by decide) ?_
              first | (exfalso; omega) | (rw [if_pos (by omega), if_pos (by omega)] at hP; simp only [Int.add_zero, Int.sub_zero]; exact ev_to hP (by repeat (first | exact trivial | refine ⟨rfl, ?_⟩)) rfl rfl rfl rfl) | (rw [if_neg (by omega), if_neg (by omega)] at hP; exact ev_to hP (by repeat (first | exact trivial | refine ⟨rfl, ?_⟩)) rfl rfl rfl rfl)
            · refine ev_ldc2 (z := 4913) dX9_bitsOf_122 jX9_245 (by decide) ?_
              refine ev_goto (tgt := 129) dX9_bitsOf_125 (by decide) ?_
              refine ev_lsub dX9_bitsOf_129 ?_
              refine ev_lstore dX9_bitsOf_130 (by decide) ?_
              refine ev_iinc dX9_bitsOf_132 rfl (by decide) ?_
              refine ev_goto (tgt := 73) dX9_bitsOf_135 (by decide) ?_
              first | (exfalso; omega) | (rw [if_pos (by omega), if_pos (by omega)] at hP; simp only [Int.add_zero, Int.sub_zero]; exact ev_to hP (by repeat (first | exact trivial | refine ⟨rfl, ?_⟩)) rfl rfl rfl rfl) | (rw [if_neg (by omega), if_neg (by omega)] at hP; exact ev_to hP (by repeat (first | exact trivial | refine ⟨rfl, ?_⟩)) rfl rfl rfl rfl)
    refine ev_iconst dX9_bitsOf_34 ?_
    refine ev_istore dX9_bitsOf_35 (by decide) ?_
    suffices st : Ev mX9_bitsOf 37 [some (vI p), some (vL (u * 2 ^ (0 : Nat))), none, some (vL e), none, some (vI ((0 : Nat) : Int)), none, none, none, none] [] KK (M) PP 0 0 _ by
      rw [Int.pow_zero, Int.mul_one] at st
      exact ev_to st (by repeat (first | exact trivial | refine ⟨rfl, ?_⟩)) rfl rfl rfl rfl
    refine up_loop (P := fun i => Ev mX9_bitsOf 37 [some (vI p), some (vL (u * 2 ^ i)), none, some (vL e), none, some (vI (i : Int)), none, none, none, none] [] KK (M) PP 0 0 _) 40 ?_ ?_
    · have e40 : u * 2 ^ 40 = u * 1099511627776 := rfl
      rw [e40]
      refine ev_iload dX9_bitsOf_37 rfl ?_
      refine ev_bipush dX9_bitsOf_39 ?_
      refine ev_icmp_ge (tgt := 56) dX9_bitsOf_41 (by decide) (by omega) (by omega) (fun hb41 => ?_) (fun hb41 => ?_)
      · refine ev_lload_n dX9_bitsOf_56 rfl ?_
        refine ev_ldc2 (z := 4913) dX9_bitsOf_57 jX9_245 (by decide) ?_
        refine ev_ldiv dX9_bitsOf_60 (by omega) (by omega) (by omega) (by omega) ?_
        rw [Int.tdiv_eq_ediv_of_nonneg (by omega)]
        refine ev_lstore dX9_bitsOf_61 (by decide) ?_
        refine ev_lload_n dX9_bitsOf_63 rfl ?_
        refine ev_ldc2 (z := 4913) dX9_bitsOf_64 jX9_245 (by decide) ?_
        refine ev_lrem dX9_bitsOf_67 (by omega) (by omega) (by omega) (by omega) ?_
        rw [tmod_nn (by omega)]
        refine ev_lstore dX9_bitsOf_68 (by decide) ?_
        refine ev_iconst dX9_bitsOf_70 ?_
        refine ev_istore dX9_bitsOf_71 (by decide) ?_
        exact ev_to lp3 (by repeat (first | exact trivial | refine ⟨rfl, ?_⟩)) rfl rfl rfl rfl
      · omega
    · intro i hi hP
      rw [Int.pow_succ, ← Int.mul_assoc] at hP
      refine ev_iload dX9_bitsOf_37 rfl ?_
      refine ev_bipush dX9_bitsOf_39 ?_
      refine ev_icmp_ge (tgt := 56) dX9_bitsOf_41 (by decide) (by omega) (by omega) (fun hb41 => ?_) (fun hb41 => ?_)
      · omega
      · refine ev_lload_n dX9_bitsOf_44 rfl ?_
        refine ev_ldc2 (z := 2) dX9_bitsOf_45 jX9_247 (by decide) ?_
        refine ev_lmul dX9_bitsOf_48 ?_
        refine ev_lstore_n dX9_bitsOf_49 (by decide) ?_
        refine ev_iinc dX9_bitsOf_50 rfl (by decide) ?_
        refine ev_goto (tgt := 37) dX9_bitsOf_53 (by decide) ?_
        exact ev_to hP (by repeat (first | exact trivial | refine ⟨rfl, ?_⟩)) rfl rfl rfl rfl
  refine ev_iload_n dX9_bitsOf_6 rfl ?_
  refine ev_i2l dX9_bitsOf_7 (by omega) ?_
  refine ev_lstore_n dX9_bitsOf_8 (by decide) ?_
  refine ev_ldc2 (z := 1023) dX9_bitsOf_9 jX9_243 (by decide) ?_
  refine ev_lstore_n dX9_bitsOf_12 (by decide) ?_
  have key : ∀ f : Nat, ∀ r e : Int, 1 ≤ r → r < 9826 → dbl f r e = dbl 13 p 1023 → Ev mX9_bitsOf 13 [some (vI p), some (vL r), none, some (vL e), none, none, none, none, none, none] [] KK M PP 0 0 (Rz mX9_bitsOf (fun r M' => r = some (vL (shB p)) ∧ M' = M)) := by
    intro f
    induction f with
    | zero =>
      intro r e h1 h2 h3
      have e1 : shU p = r := by unfold shU; rw [← h3]; rfl
      have e2 : shX p = e := by unfold shX; rw [← h3]; rfl
      have c1 := cmpL_c r 4913
      have h4 : 4913 ≤ r := by rw [← e1]; exact hr.1
      rw [e1, e2] at tail
      refine ev_lload_n dX9_bitsOf_13 rfl ?_
      refine ev_ldc2 (z := 4913) dX9_bitsOf_14 jX9_245 (by decide) ?_
      refine ev_lcmp dX9_bitsOf_17 (by omega) (by omega) ?_
      refine ev_if_ge (tgt := 34) dX9_bitsOf_18 (by decide) (by omega) (fun hb18 => ?_) (fun hb18 => ?_)
      · exact ev_to tail (by repeat (first | exact trivial | refine ⟨rfl, ?_⟩)) rfl rfl rfl rfl
      · omega
    | succ f ih =>
      intro r e h1 h2 h3
      have c1 := cmpL_c r 4913
      refine ev_lload_n dX9_bitsOf_13 rfl ?_
      refine ev_ldc2 (z := 4913) dX9_bitsOf_14 jX9_245 (by decide) ?_
      refine ev_lcmp dX9_bitsOf_17 (by omega) (by omega) ?_
      refine ev_if_ge (tgt := 34) dX9_bitsOf_18 (by decide) (by omega) (fun h => ?_) (fun h => ?_)
      · rw [dbl_n _ _ _ (by omega)] at h3
        have e1 : shU p = r := by unfold shU; rw [← h3]
        have e2 : shX p = e := by unfold shX; rw [← h3]
        rw [e1, e2] at tail
        exact ev_to tail (by repeat (first | exact trivial | refine ⟨rfl, ?_⟩)) rfl rfl rfl rfl
      · rw [dbl_s _ _ _ (by omega)] at h3
        refine ev_lload_n dX9_bitsOf_21 rfl ?_
        refine ev_ldc2 (z := 2) dX9_bitsOf_22 jX9_247 (by decide) ?_
        refine ev_lmul dX9_bitsOf_25 ?_
        refine ev_lstore_n dX9_bitsOf_26 (by decide) ?_
        refine ev_lload_n dX9_bitsOf_27 rfl ?_
        refine ev_lconst (z := 1) dX9_bitsOf_28 ?_
        refine ev_lsub dX9_bitsOf_29 ?_
        refine ev_lstore_n dX9_bitsOf_30 (by decide) ?_
        refine ev_goto (tgt := 13) dX9_bitsOf_31 (by decide) ?_
        have := ih (r * 2) (e - 1) (by omega) (by omega) h3
        exact ev_to this (by repeat (first | exact trivial | refine ⟨rfl, ?_⟩)) rfl rfl rfl rfl
  have k13 := key 13 p 1023 (by omega) (by omega) rfl
  exact ev_to k13 (by repeat (first | exact trivial | refine ⟨rfl, ?_⟩)) rfl rfl rfl rfl
noncomputable def kSh (n : Nat) (A : Nat → PS) (x : Int) : Int := if ¬ (0 < n ∧ 0 ≤ x ∧ x ≤ n) then -101 else shB (crd (A x.toNat))
theorem k_share {n : Nat} {x : Int} (hx : inR x) (M : Mm) (hK : KI M n) {A : Nat → PS} {r : Int} (hA : 0 < n → mPr M n A r) : Cm mX9_share [vR 54, vI x] M (fun w M' => w = some (vL (kSh n A x)) ∧ Kq M M' n) := by
  have h6 := hK.n6
  unfold kSh
  refine cm_of (by decide +kernel) (fun _ => trivial) (Nat.le_of_ble_eq_true rfl) ?_
  first | refine ev_aload_n dX9_share_0 rfl ?_ | refine ev_aloadX_n dX9_share_0 rfl ?_
  refine ev_iload_n dX9_share_1 rfl ?_
  refine ev_callv (ci := 9) (k_isPlace hx M hK hA) dX9_share_2 tX9_isPlace.1 kX9_232 tX9_isPlace.2.1 tX9_isPlace.2.2.1 rfl (by first | rfl | assumption) tX9_isPlace.2.2.2 ⟨⟨Nat.le_of_ble_eq_true rfl, Nat.le_of_ble_eq_true rfl⟩, Nat.le_of_ble_eq_true rfl, Nat.le_of_ble_eq_true rfl⟩ rfl (Nat.le_of_ble_eq_true rfl) ?_
  rintro w K' M1 P' ⟨rfl, rfl, ⟨v2, rfl, hw2, hv2⟩, q1, q2⟩
  refine ev_if_eq (tgt := 20) dX9_share_5 (by decide) (by omega) (fun hb5 => ?_) (fun hb5 => ?_)
  · refine ev_ldc2 (z := -101) dX9_share_20 jX9_255 (by decide) ?_
    exact ev_lreturn dX9_share_23 rfl (rz ⟨by first | rw [if_pos ((not_congr hv2).mp (by omega))] | (rw [if_neg (fun z => z (hv2.mp (by omega)))]; rfl), q1⟩)
  · have g2 := hv2.mp (by omega)
    obtain ⟨k, rfl⟩ := Int.eq_ofNat_of_zero_le g2.2.1
    have hR := ((q2 (by omega)).2.2.2 k (by omega)).2
    have hc := crd_rng (A k)
    first | refine ev_aload_n dX9_share_8 rfl ?_ | refine ev_aloadX_n dX9_share_8 rfl ?_
    refine ev_getR dX9_share_9 fX9_35 rfl (by first | rfl | assumption) (by first | rfl | assumption) ?_
    refine ev_iload_n dX9_share_12 rfl ?_
    refine ev_iaload dX9_share_13 (by first | rfl | assumption) (by omega) (by omega) (by decide) ?_
    rw [hR]
    refine ev_calls (k_bitsOf hc.1 hc.2 M1) dX9_share_14 tX9_bitsOf.1 kX9_251 tX9_bitsOf.2.1 tX9_bitsOf.2.2 ⟨⟨Nat.le_of_ble_eq_true rfl, Nat.le_of_ble_eq_true rfl⟩, Nat.le_of_ble_eq_true rfl, Nat.le_of_ble_eq_true rfl⟩ rfl (Nat.le_of_ble_eq_true rfl) ?_
    rintro r K' M' P' ⟨rfl, rfl, rfl, hM'⟩
    rw [hM']
    clear hM' M'
    refine ev_goto (tgt := 23) dX9_share_17 (by decide) ?_
    exact ev_lreturn dX9_share_23 rfl (rz ⟨by first | rw [if_pos ((not_congr hv2).mp (by omega))] | (rw [if_neg (fun z => z (hv2.mp (by omega)))]; rfl), q1⟩)
def cmnI (S T : PS) (i : Int) : Prop := ∃ p, (0 ≤ p ∧ p < i) ∧ S p ∧ T p
def cmnS (S T : PS) : Prop := ∃ p, S p ∧ T p
theorem k_compareOf {k j : Nat} (hk : k ≤ 9) (hj : j ≤ 9) (M : Mm) {S T : PS} (hS : Rw (M 58) k S) (hT : Rw (M 58) j T) (iS : ∀ p, S p → inP p) (iT : ∀ p, T p → inP p) : Cm mX9_compareOf [vR 54, vI (k : Int), vI (j : Int)] M (fun r M' => r = some (vI (cmpV S T)) ∧ M' = M) := by
  refine cm_of (by decide +kernel) (fun _ => trivial) (Nat.le_of_ble_eq_true rfl) ?_
  refine ev_iconst dX9_compareOf_0 ?_
  refine ev_istore_n dX9_compareOf_1 (by decide) ?_
  refine ev_iconst dX9_compareOf_2 ?_
  refine ev_istore dX9_compareOf_3 (by decide) ?_
  refine ev_iconst dX9_compareOf_5 ?_
  refine ev_istore dX9_compareOf_6 (by decide) ?_
  refine ev_iconst dX9_compareOf_8 ?_
  refine ev_istore dX9_compareOf_9 (by decide) ?_
  refine ev_to (L' := [some (vR 54), some (vI (k : Int)), some (vI (j : Int)), some (vI 1), some (vI 1), some (vI 0), some (vI ((0 : Nat) : Int)), none, none]) (S' := []) (M' := M) (k' := 0) (n' := 0) ?_ (by repeat (first | exact trivial | refine ⟨rfl, ?_⟩)) rfl rfl rfl rfl
  refine up_loop (P := fun i => ∀ w a c : Int, (w = 0 ∨ w = 1) → (a = 0 ∨ a = 1) → (c = 0 ∨ c = 1) → (w = 1 ↔ ∀ p, 0 ≤ p → p < (i : Int) → S p → T p) → (a = 1 ↔ ∀ p, 0 ≤ p → p < (i : Int) → T p → S p) → (c = 1 ↔ cmnI S T (i : Int)) → Ev mX9_compareOf 11 [some (vR 54), some (vI (k : Int)), some (vI (j : Int)), some (vI w), some (vI a), some (vI c), some (vI (i : Int)), none, none] [] KK M PP 0 0 _) 4913 ?_ ?_ 1 1 0 (Or.inr rfl) (Or.inr rfl) (Or.inl rfl) ⟨fun _ p h1 h2 => by omega, fun _ => rfl⟩ ⟨fun _ p h1 h2 => by omega, fun _ => rfl⟩ ⟨fun z => by omega, fun ⟨p, h1, _⟩ => by omega⟩
  · intro w a c hw ha hc qw qa qc
    have fw : w = 1 ↔ ∀ p, S p → T p := qw.trans ⟨fun z p hp => z p (iS p hp).1 (by have := iS p hp; omega) hp, fun z p _ _ hp => z p hp⟩
    have fa : a = 1 ↔ ∀ p, T p → S p := qa.trans ⟨fun z p hp => z p (iT p hp).1 (by have := iT p hp; omega) hp, fun z p _ _ hp => z p hp⟩
    have fc : c = 1 ↔ cmnS S T := qc.trans ⟨fun ⟨p, _, h⟩ => ⟨p, h⟩, fun ⟨p, h⟩ => ⟨p, by have := iS p h.1; omega, h⟩⟩
    refine ev_iload dX9_compareOf_11 rfl ?_
    refine ev_sipush dX9_compareOf_13 ?_
    refine ev_icmp_ge (tgt := 112) dX9_compareOf_16 (by decide) (by omega) (by omega) (fun hb16 => ?_) (fun hb16 => ?_)
    · refine ev_iload_n dX9_compareOf_112 rfl ?_
      refine ev_if_eq (tgt := 125) dX9_compareOf_113 (by decide) (by omega) (fun hb113 => ?_) (fun hb113 => ?_)
      · refine ev_iload_n dX9_compareOf_125 rfl ?_
        refine ev_if_eq (tgt := 133) dX9_compareOf_126 (by decide) (by omega) (fun hb126 => ?_) (fun hb126 => ?_)
        · refine ev_iload dX9_compareOf_133 rfl ?_
          refine ev_if_eq (tgt := 142) dX9_compareOf_135 (by decide) (by omega) (fun hb135 => ?_) (fun hb135 => ?_)
          · refine ev_iload dX9_compareOf_142 rfl ?_
            refine ev_if_eq (tgt := 151) dX9_compareOf_144 (by decide) (by omega) (fun hb144 => ?_) (fun hb144 => ?_)
            · refine ev_iconst dX9_compareOf_151 ?_
              exact ev_ireturn dX9_compareOf_152 ⟨_, rfl, rfl⟩ (rz ⟨by first | (exfalso; omega) | rw [cmpV_0 (fw.mp (by omega)) (fa.mp (by omega))] | rw [cmpV_1 (fw.mp (by omega)) ((not_congr fa).mp (by omega))] | rw [cmpV_2 ((not_congr fw).mp (by omega)) (fa.mp (by omega))] | rw [cmpV_3 ((not_congr fw).mp (by omega)) ((not_congr fa).mp (by omega)) (fc.mp (by omega))] | rw [cmpV_4 ((not_congr fw).mp (by omega)) ((not_congr fa).mp (by omega)) ((not_congr fc).mp (by omega))], rfl⟩)
            · refine ev_iconst dX9_compareOf_147 ?_
              refine ev_goto (tgt := 152) dX9_compareOf_148 (by decide) ?_
              exact ev_ireturn dX9_compareOf_152 ⟨_, rfl, rfl⟩ (rz ⟨by first | (exfalso; omega) | rw [cmpV_0 (fw.mp (by omega)) (fa.mp (by omega))] | rw [cmpV_1 (fw.mp (by omega)) ((not_congr fa).mp (by omega))] | rw [cmpV_2 ((not_congr fw).mp (by omega)) (fa.mp (by omega))] | rw [cmpV_3 ((not_congr fw).mp (by omega)) ((not_congr fa).mp (by omega)) (fc.mp (by omega))] | rw [cmpV_4 ((not_congr fw).mp (by omega)) ((not_congr fa).mp (by omega)) ((not_congr fc).mp (by omega))], rfl⟩)
          · refine ev_iconst dX9_compareOf_138 ?_
            refine ev_goto (tgt := 152) dX9_compareOf_139 (by decide) ?_
            exact ev_ireturn dX9_compareOf_152 ⟨_, rfl, rfl⟩ (rz ⟨by first | (exfalso; omega) | rw [cmpV_0 (fw.mp (by omega)) (fa.mp (by omega))] | rw [cmpV_1 (fw.mp (by omega)) ((not_congr fa).mp (by omega))] | rw [cmpV_2 ((not_congr fw).mp (by omega)) (fa.mp (by omega))] | rw [cmpV_3 ((not_congr fw).mp (by omega)) ((not_congr fa).mp (by omega)) (fc.mp (by omega))] | rw [cmpV_4 ((not_congr fw).mp (by omega)) ((not_congr fa).mp (by omega)) ((not_congr fc).mp (by omega))], rfl⟩)
        · refine ev_iconst dX9_compareOf_129 ?_
          refine ev_goto (tgt := 152) dX9_compareOf_130 (by decide) ?_
          exact ev_ireturn dX9_compareOf_152 ⟨_, rfl, rfl⟩ (rz ⟨by first | (exfalso; omega) | rw [cmpV_0 (fw.mp (by omega)) (fa.mp (by omega))] | rw [cmpV_1 (fw.mp (by omega)) ((not_congr fa).mp (by omega))] | rw [cmpV_2 ((not_congr fw).mp (by omega)) (fa.mp (by omega))] | rw [cmpV_3 ((not_congr fw).mp (by omega)) ((not_congr fa).mp (by omega)) (fc.mp (by omega))] | rw [cmpV_4 ((not_congr fw).mp (by omega)) ((not_congr fa).mp (by omega)) ((not_congr fc).mp (by omega))], rfl⟩)
      · refine ev_iload dX9_compareOf_116 rfl ?_
        refine ev_if_eq (tgt := 125) dX9_compareOf_118 (by decide) (by omega) (fun hb118 => ?_) (fun hb118 => ?_)
        · refine ev_iload_n dX9_compareOf_125 rfl ?_
          refine ev_if_eq (tgt := 133) dX9_compareOf_126 (by decide) (by omega) (fun hb126 => ?_) (fun hb126 => ?_)
          · refine ev_iload dX9_compareOf_133 rfl ?_
            refine ev_if_eq (tgt := 142) dX9_compareOf_135 (by decide) (by omega) (fun hb135 => ?_) (fun hb135 => ?_)
            · refine ev_iload dX9_compareOf_142 rfl ?_
              refine ev_if_eq (tgt := 151) dX9_compareOf_144 (by decide) (by omega) (fun hb144 => ?_) (fun hb144 => ?_)
              · refine ev_iconst dX9_compareOf_151 ?_
                exact ev_ireturn dX9_compareOf_152 ⟨_, rfl, rfl⟩ (rz ⟨by first | (exfalso; omega) | rw [cmpV_0 (fw.mp (by omega)) (fa.mp (by omega))] | rw [cmpV_1 (fw.mp (by omega)) ((not_congr fa).mp (by omega))] | rw [cmpV_2 ((not_congr fw).mp (by omega)) (fa.mp (by omega))] | rw [cmpV_3 ((not_congr fw).mp (by omega)) ((not_congr fa).mp (by omega)) (fc.mp (by omega))] | rw [cmpV_4 ((not_congr fw).mp (by omega)) ((not_congr fa).mp (by omega)) ((not_congr fc).mp (by omega))], rfl⟩)
              · refine ev_iconst dX9_compareOf_147 ?_
                refine ev_goto (tgt := 152) dX9_compareOf_148 (by decide) ?_
                exact ev_ireturn dX9_compareOf_152 ⟨_, rfl, rfl⟩ (rz ⟨by first | (exfalso; omega) | rw [cmpV_0 (fw.mp (by omega)) (fa.mp (by omega))] | rw [cmpV_1 (fw.mp (by omega)) ((not_congr fa).mp (by omega))] | rw [cmpV_2 ((not_congr fw).mp (by omega)) (fa.mp (by omega))] | rw [cmpV_3 ((not_congr fw).mp (by omega)) ((not_congr fa).mp (by omega)) (fc.mp (by omega))] | rw [cmpV_4 ((not_congr fw).mp (by omega)) ((not_congr fa).mp (by omega)) ((not_congr fc).mp (by omega))], rfl⟩)
            · refine ev_iconst dX9_compareOf_138 ?_
              refine ev_goto (tgt := 152) dX9_compareOf_139 (by decide) ?_
              exact ev_ireturn dX9_compareOf_152 ⟨_, rfl, rfl⟩ (rz ⟨by first | (exfalso; omega) | rw [cmpV_0 (fw.mp (by omega)) (fa.mp (by omega))] | rw [cmpV_1 (fw.mp (by omega)) ((not_congr fa).mp (by omega))] | rw [cmpV_2 ((not_congr fw).mp (by omega)) (fa.mp (by omega))] | rw [cmpV_3 ((not_congr fw).mp (by omega)) ((not_congr fa).mp (by omega)) (fc.mp (by omega))] | rw [cmpV_4 ((not_congr fw).mp (by omega)) ((not_congr fa).mp (by omega)) ((not_congr fc).mp (by omega))], rfl⟩)
          · refine ev_iconst dX9_compareOf_129 ?_
            refine ev_goto (tgt := 152) dX9_compareOf_130 (by decide) ?_
            exact ev_ireturn dX9_compareOf_152 ⟨_, rfl, rfl⟩ (rz ⟨by first | (exfalso; omega) | rw [cmpV_0 (fw.mp (by omega)) (fa.mp (by omega))] | rw [cmpV_1 (fw.mp (by omega)) ((not_congr fa).mp (by omega))] | rw [cmpV_2 ((not_congr fw).mp (by omega)) (fa.mp (by omega))] | rw [cmpV_3 ((not_congr fw).mp (by omega)) ((not_congr fa).mp (by omega)) (fc.mp (by omega))] | rw [cmpV_4 ((not_congr fw).mp (by omega)) ((not_congr fa).mp (by omega)) ((not_congr fc).mp (by omega))], rfl⟩)
        · refine ev_iconst dX9_compareOf_121 ?_
          refine ev_goto (tgt := 152) dX9_compareOf_122 (by decide) ?_
          exact ev_ireturn dX9_compareOf_152 ⟨_, rfl, rfl⟩ (rz ⟨by first | (exfalso; omega) | rw [cmpV_0 (fw.mp (by omega)) (fa.mp (by omega))] | rw [cmpV_1 (fw.mp (by omega)) ((not_congr fa).mp (by omega))] | rw [cmpV_2 ((not_congr fw).mp (by omega)) (fa.mp (by omega))] | rw [cmpV_3 ((not_congr fw).mp (by omega)) ((not_congr fa).mp (by omega)) (fc.mp (by omega))] | rw [cmpV_4 ((not_congr fw).mp (by omega)) ((not_congr fa).mp (by omega)) ((not_congr fc).mp (by omega))], rfl⟩)
    · omega
  · intro i hi hP w a c hw ha hc qw qa qc
    have hip : inP (i : Int) := by omega
    have h1 := hS.v01 hip
    have h2 := hT.v01 hip
    have h3 := hS.iff hip
    have h4 := hT.iff hip
    generalize eo1 : M 58 (4913 * (k : Int) + (i : Int)) = o1 at *
    have nw : ∀ w' : Int, (w' = 1 ↔ (w = 1 ∧ o1 ≤ M 58 (4913 * (j : Int) + (i : Int)))) → (w' = 1 ↔ ∀ p, 0 ≤ p → p < ((i + 1 : Nat) : Int) → S p → T p) := by
      intro w' hw'
      rw [hw', qw]
      constructor
      · rintro ⟨z1, z2⟩ p p1 p2 hp
        by_cases e : p = (i : Int)
        · subst e; exact h4.mp (by have := h3.mpr hp; omega)
        · exact z1 p p1 (by omega) hp
      · intro z
        refine ⟨fun p p1 p2 => z p p1 (by omega), ?_⟩
        by_cases e : S i
        · have := h4.mpr (z i (by omega) (by omega) e); omega
        · have := (not_congr h3).mpr e; omega
    have na : ∀ w' : Int, (w' = 1 ↔ (a = 1 ∧ M 58 (4913 * (j : Int) + (i : Int)) ≤ o1)) → (w' = 1 ↔ ∀ p, 0 ≤ p → p < ((i + 1 : Nat) : Int) → T p → S p) := by
      intro w' hw'
      rw [hw', qa]
      constructor
      · rintro ⟨z1, z2⟩ p p1 p2 hp
        by_cases e : p = (i : Int)
        · subst e; exact h3.mp (by have := h4.mpr hp; omega)
        · exact z1 p p1 (by omega) hp
      · intro z
        refine ⟨fun p p1 p2 => z p p1 (by omega), ?_⟩
        by_cases e : T i
        · have := h3.mpr (z i (by omega) (by omega) e); omega
        · have := (not_congr h4).mpr e; omega
    have nc : ∀ w' : Int, (w' = 1 ↔ (c = 1 ∨ o1 + M 58 (4913 * (j : Int) + (i : Int)) = 2)) → (w' = 1 ↔ cmnI S T ((i + 1 : Nat) : Int)) := by
      intro w' hw'
      rw [hw', qc]
      constructor
      · rintro (⟨p, z1, z2⟩ | z)
        · exact ⟨p, ⟨z1.1, by omega⟩, z2⟩
        · exact ⟨i, by omega, h3.mp (by omega), h4.mp (by omega)⟩
      · rintro ⟨p, z1, z2⟩
        by_cases e : p = (i : Int)
        · subst e
          have := h3.mpr z2.1
          have := h4.mpr z2.2
          exact Or.inr (by omega)
        · exact Or.inl ⟨p, by omega, z2⟩
    generalize eo2 : M 58 (4913 * (j : Int) + (i : Int)) = o2 at *
    clear h3 h4 qw qa qc hS hT iS iT
    have s3 : ∀ w' a' : Int, (w' = 0 ∨ w' = 1) → (a' = 0 ∨ a' = 1) → (w' = 1 ↔ (w = 1 ∧ o1 ≤ o2)) → (a' = 1 ↔ (a = 1 ∧ o2 ≤ o1)) → Ev mX9_compareOf 85 [some (vR 54), some (vI (k : Int)), some (vI (j : Int)), some (vI w'), some (vI a'), some (vI c), some (vI (i : Int)), some (vI o1), some (vI o2)] [] KK M PP 0 0 (Rz mX9_compareOf (fun r M' => r = some (vI (cmpV S T)) ∧ M' = M)) := by
      intro w' a' z1 z2 z3 z4
      have hQ := fun c' (y1 : c' = 0 ∨ c' = 1) y2 => hP w' a' c' z1 z2 y1 (nw _ z3) (na _ z4) (nc c' y2)
      clear hP nw na nc z3 z4
      refine ev_iload dX9_compareOf_85 rfl ?_
      refine ev_if_ne (tgt := 99) dX9_compareOf_87 (by decide) (by omega) (fun hb87 => ?_) (fun hb87 => ?_)
      · refine ev_iconst dX9_compareOf_99 ?_
        refine ev_goto (tgt := 104) dX9_compareOf_100 (by decide) ?_
        refine ev_istore dX9_compareOf_104 (by decide) ?_
        refine ev_iinc dX9_compareOf_106 rfl (by decide) ?_
        refine ev_goto (tgt := 11) dX9_compareOf_109 (by decide) ?_
        first | (refine ev_to (hQ 0 (Or.inl rfl) ?_) (by repeat (first | exact trivial | refine ⟨rfl, ?_⟩)) rfl rfl rfl rfl; omega) | (refine ev_to (hQ 1 (Or.inr rfl) ?_) (by repeat (first | exact trivial | refine ⟨rfl, ?_⟩)) rfl rfl rfl rfl; omega)
      · refine ev_iload dX9_compareOf_90 rfl ?_
        refine ev_iload dX9_compareOf_92 rfl ?_
        refine ev_iadd dX9_compareOf_94 ?_
        refine ev_iconst dX9_compareOf_95 ?_
        refine ev_icmp_ne (tgt := 103) dX9_compareOf_96 (by decide) (by omega) (by omega) (fun hb96 => ?_) (fun hb96 => ?_)
        · refine ev_iconst dX9_compareOf_103 ?_
          refine ev_istore dX9_compareOf_104 (by decide) ?_
          refine ev_iinc dX9_compareOf_106 rfl (by decide) ?_
          refine ev_goto (tgt := 11) dX9_compareOf_109 (by decide) ?_
          first | (refine ev_to (hQ 0 (Or.inl rfl) ?_) (by repeat (first | exact trivial | refine ⟨rfl, ?_⟩)) rfl rfl rfl rfl; omega) | (refine ev_to (hQ 1 (Or.inr rfl) ?_) (by repeat (first | exact trivial | refine ⟨rfl, ?_⟩)) rfl rfl rfl rfl; omega)
        · refine ev_iconst dX9_compareOf_99 ?_
          refine ev_goto (tgt := 104) dX9_compareOf_100 (by decide) ?_
          refine ev_istore dX9_compareOf_104 (by decide) ?_
          refine ev_iinc dX9_compareOf_106 rfl (by decide) ?_
          refine ev_goto (tgt := 11) dX9_compareOf_109 (by decide) ?_
          first | (refine ev_to (hQ 0 (Or.inl rfl) ?_) (by repeat (first | exact trivial | refine ⟨rfl, ?_⟩)) rfl rfl rfl rfl; omega) | (refine ev_to (hQ 1 (Or.inr rfl) ?_) (by repeat (first | exact trivial | refine ⟨rfl, ?_⟩)) rfl rfl rfl rfl; omega)
    clear hP nw na nc
    have s2 : ∀ w' : Int, (w' = 0 ∨ w' = 1) → (w' = 1 ↔ (w = 1 ∧ o1 ≤ o2)) → Ev mX9_compareOf 66 [some (vR 54), some (vI (k : Int)), some (vI (j : Int)), some (vI w'), some (vI a), some (vI c), some (vI (i : Int)), some (vI o1), some (vI o2)] [] KK M PP 0 0 (Rz mX9_compareOf (fun r M' => r = some (vI (cmpV S T)) ∧ M' = M)) := by
      intro w' z1 z3
      have hQ := fun a' (y1 : a' = 0 ∨ a' = 1) y2 => s3 w' a' z1 y1 z3 y2
      clear s3 z3
      refine ev_iload dX9_compareOf_66 rfl ?_
      refine ev_if_eq (tgt := 82) dX9_compareOf_68 (by decide) (by omega) (fun hb68 => ?_) (fun hb68 => ?_)
      · refine ev_iconst dX9_compareOf_82 ?_
        refine ev_istore dX9_compareOf_83 (by decide) ?_
        first | (refine ev_to (hQ 0 (Or.inl rfl) ?_) (by repeat (first | exact trivial | refine ⟨rfl, ?_⟩)) rfl rfl rfl rfl; omega) | (refine ev_to (hQ 1 (Or.inr rfl) ?_) (by repeat (first | exact trivial | refine ⟨rfl, ?_⟩)) rfl rfl rfl rfl; omega)
      · refine ev_iload dX9_compareOf_71 rfl ?_
        refine ev_iload dX9_compareOf_73 rfl ?_
        refine ev_icmp_gt (tgt := 82) dX9_compareOf_75 (by decide) (by omega) (by omega) (fun hb75 => ?_) (fun hb75 => ?_)
        · refine ev_iconst dX9_compareOf_82 ?_
          refine ev_istore dX9_compareOf_83 (by decide) ?_
          first | (refine ev_to (hQ 0 (Or.inl rfl) ?_) (by repeat (first | exact trivial | refine ⟨rfl, ?_⟩)) rfl rfl rfl rfl; omega) | (refine ev_to (hQ 1 (Or.inr rfl) ?_) (by repeat (first | exact trivial | refine ⟨rfl, ?_⟩)) rfl rfl rfl rfl; omega)
        · refine ev_iconst dX9_compareOf_78 ?_
          refine ev_goto (tgt := 83) dX9_compareOf_79 (by decide) ?_
          refine ev_istore dX9_compareOf_83 (by decide) ?_
          first | (refine ev_to (hQ 0 (Or.inl rfl) ?_) (by repeat (first | exact trivial | refine ⟨rfl, ?_⟩)) rfl rfl rfl rfl; omega) | (refine ev_to (hQ 1 (Or.inr rfl) ?_) (by repeat (first | exact trivial | refine ⟨rfl, ?_⟩)) rfl rfl rfl rfl; omega)
    clear s3
    refine ev_iload dX9_compareOf_11 rfl ?_
    refine ev_sipush dX9_compareOf_13 ?_
    refine ev_icmp_ge (tgt := 112) dX9_compareOf_16 (by decide) (by omega) (by omega) (fun hb16 => ?_) (fun hb16 => ?_)
    · omega
    · first | refine ev_aload_n dX9_compareOf_19 rfl ?_ | refine ev_aloadX_n dX9_compareOf_19 rfl ?_
      refine ev_getR dX9_compareOf_20 fX9_20 rfl (by first | rfl | assumption) (by first | rfl | assumption) ?_
      refine ev_sipush dX9_compareOf_23 ?_
      refine ev_iload_n dX9_compareOf_26 rfl ?_
      refine ev_imul dX9_compareOf_27 ?_
      refine ev_iload dX9_compareOf_28 rfl ?_
      refine ev_iadd dX9_compareOf_30 ?_
      refine ev_iaload dX9_compareOf_31 (by first | rfl | assumption) (by omega) (by omega) (by decide) ?_
      rw [eo1]
      refine ev_istore dX9_compareOf_32 (by decide) ?_
      first | refine ev_aload_n dX9_compareOf_34 rfl ?_ | refine ev_aloadX_n dX9_compareOf_34 rfl ?_
      refine ev_getR dX9_compareOf_35 fX9_20 rfl (by first | rfl | assumption) (by first | rfl | assumption) ?_
      refine ev_sipush dX9_compareOf_38 ?_
      refine ev_iload_n dX9_compareOf_41 rfl ?_
      refine ev_imul dX9_compareOf_42 ?_
      refine ev_iload dX9_compareOf_43 rfl ?_
      refine ev_iadd dX9_compareOf_45 ?_
      refine ev_iaload dX9_compareOf_46 (by first | rfl | assumption) (by omega) (by omega) (by decide) ?_
      rw [eo2]
      refine ev_istore dX9_compareOf_47 (by decide) ?_
      refine ev_iload_n dX9_compareOf_49 rfl ?_
      refine ev_if_eq (tgt := 64) dX9_compareOf_50 (by decide) (by omega) (fun hb50 => ?_) (fun hb50 => ?_)
      · refine ev_iconst dX9_compareOf_64 ?_
        refine ev_istore_n dX9_compareOf_65 (by decide) ?_
        first | (refine ev_to (s2 0 (Or.inl rfl) ?_) (by repeat (first | exact trivial | refine ⟨rfl, ?_⟩)) rfl rfl rfl rfl; omega) | (refine ev_to (s2 1 (Or.inr rfl) ?_) (by repeat (first | exact trivial | refine ⟨rfl, ?_⟩)) rfl rfl rfl rfl; omega)
      · refine ev_iload dX9_compareOf_53 rfl ?_
        refine ev_iload dX9_compareOf_55 rfl ?_
        refine ev_icmp_gt (tgt := 64) dX9_compareOf_57 (by decide) (by omega) (by omega) (fun hb57 => ?_) (fun hb57 => ?_)
        · refine ev_iconst dX9_compareOf_64 ?_
          refine ev_istore_n dX9_compareOf_65 (by decide) ?_
          first | (refine ev_to (s2 0 (Or.inl rfl) ?_) (by repeat (first | exact trivial | refine ⟨rfl, ?_⟩)) rfl rfl rfl rfl; omega) | (refine ev_to (s2 1 (Or.inr rfl) ?_) (by repeat (first | exact trivial | refine ⟨rfl, ?_⟩)) rfl rfl rfl rfl; omega)
        · refine ev_iconst dX9_compareOf_60 ?_
          refine ev_goto (tgt := 65) dX9_compareOf_61 (by decide) ?_
          refine ev_istore_n dX9_compareOf_65 (by decide) ?_
          first | (refine ev_to (s2 0 (Or.inl rfl) ?_) (by repeat (first | exact trivial | refine ⟨rfl, ?_⟩)) rfl rfl rfl rfl; omega) | (refine ev_to (s2 1 (Or.inr rfl) ?_) (by repeat (first | exact trivial | refine ⟨rfl, ?_⟩)) rfl rfl rfl rfl; omega)
noncomputable def kCp (n : Nat) (A : Nat → PS) (x y : Int) : Int := if ¬ (0 < n ∧ (0 ≤ x ∧ x ≤ n) ∧ (0 ≤ y ∧ y ≤ n)) then -101 else cmpV (A x.toNat) (A y.toNat)
theorem k_compare {n : Nat} {x y : Int} (hx : inR x) (hy : inR y) (M : Mm) (hK : KI M n) {A : Nat → PS} {r : Int} (hA : 0 < n → mPr M n A r) : Cm mX9_compare [vR 54, vI x, vI y] M (fun w M' => w = some (vI (kCp n A x y)) ∧ Kq M M' n) := by
  have h6 := hK.n6
  unfold kCp
  refine cm_of (by decide +kernel) (fun _ => trivial) (Nat.le_of_ble_eq_true rfl) ?_
  first | refine ev_aload_n dX9_compare_0 rfl ?_ | refine ev_aloadX_n dX9_compare_0 rfl ?_
  refine ev_iload_n dX9_compare_1 rfl ?_
  refine ev_callv (ci := 9) (k_isPlace hx M hK hA) dX9_compare_2 tX9_isPlace.1 kX9_232 tX9_isPlace.2.1 tX9_isPlace.2.2.1 rfl (by first | rfl | assumption) tX9_isPlace.2.2.2 ⟨⟨Nat.le_of_ble_eq_true rfl, Nat.le_of_ble_eq_true rfl⟩, Nat.le_of_ble_eq_true rfl, Nat.le_of_ble_eq_true rfl⟩ rfl (Nat.le_of_ble_eq_true rfl) ?_
  rintro w K' M1 P' ⟨rfl, rfl, ⟨v2, rfl, hw2, hv2⟩, q1, q2⟩
  refine ev_if_eq (tgt := 25) dX9_compare_5 (by decide) (by omega) (fun hb5 => ?_) (fun hb5 => ?_)
  · refine ev_bipush dX9_compare_25 ?_
    exact ev_ireturn dX9_compare_27 ⟨_, rfl, rfl⟩ (rz ⟨by first | rw [if_pos (fun z => (not_congr hv2).mp (by omega) ⟨z.1, z.2.1⟩)] | rw [if_pos (fun z => (not_congr hv3).mp (by omega) ⟨z.1, z.2.2⟩)] | (rw [if_neg (fun z => z ⟨g2.1, g2.2, g3.2⟩)]; rfl), by first | exact q1.tr q3 | exact q1⟩)
  · first | refine ev_aload_n dX9_compare_8 rfl ?_ | refine ev_aloadX_n dX9_compare_8 rfl ?_
    refine ev_iload_n dX9_compare_9 rfl ?_
    refine ev_callv (ci := 9) (k_isPlace hy M1 q1.2 (fun z => by rw [mPr, q1.p]; exact hA z)) dX9_compare_10 tX9_isPlace.1 kX9_232 tX9_isPlace.2.1 tX9_isPlace.2.2.1 rfl (by first | rfl | assumption) tX9_isPlace.2.2.2 ⟨⟨Nat.le_of_ble_eq_true rfl, Nat.le_of_ble_eq_true rfl⟩, Nat.le_of_ble_eq_true rfl, Nat.le_of_ble_eq_true rfl⟩ rfl (Nat.le_of_ble_eq_true rfl) ?_
    rintro w K' M2 P' ⟨rfl, rfl, ⟨v3, rfl, hw3, hv3⟩, q3, q4⟩
    refine ev_if_eq (tgt := 25) dX9_compare_13 (by decide) (by omega) (fun hb13 => ?_) (fun hb13 => ?_)
    · refine ev_bipush dX9_compare_25 ?_
      exact ev_ireturn dX9_compare_27 ⟨_, rfl, rfl⟩ (rz ⟨by first | rw [if_pos (fun z => (not_congr hv2).mp (by omega) ⟨z.1, z.2.1⟩)] | rw [if_pos (fun z => (not_congr hv3).mp (by omega) ⟨z.1, z.2.2⟩)] | (rw [if_neg (fun z => z ⟨g2.1, g2.2, g3.2⟩)]; rfl), by first | exact q1.tr q3 | exact q1⟩)
    · have g2 := hv2.mp (by omega)
      have g3 := hv3.mp (by omega)
      obtain ⟨k, rfl⟩ := Int.eq_ofNat_of_zero_le g2.2.1
      obtain ⟨j, rfl⟩ := Int.eq_ofNat_of_zero_le g3.2.1
      have hR := (q4 (by omega)).2.2.2
      have hO := (q4 (by omega)).2.2.1
      first | refine ev_aload_n dX9_compare_16 rfl ?_ | refine ev_aloadX_n dX9_compare_16 rfl ?_
      refine ev_iload_n dX9_compare_17 rfl ?_
      refine ev_iload_n dX9_compare_18 rfl ?_
      refine ev_callv (ci := 9) (k_compareOf (k := k) (j := j) (by omega) (by omega) M2 (hR k (by omega)).1 (hR j (by omega)).1 (oct_in (hO k (by omega))) (oct_in (hO j (by omega)))) dX9_compare_19 tX9_compareOf.1 kX9_257 tX9_compareOf.2.1 tX9_compareOf.2.2.1 rfl (by first | rfl | assumption) tX9_compareOf.2.2.2 ⟨⟨Nat.le_of_ble_eq_true rfl, Nat.le_of_ble_eq_true rfl⟩, Nat.le_of_ble_eq_true rfl, Nat.le_of_ble_eq_true rfl⟩ rfl (Nat.le_of_ble_eq_true rfl) ?_
      rintro r K' M' P' ⟨rfl, rfl, rfl, hM'⟩
      rw [hM']
      clear hM' M'
      refine ev_goto (tgt := 27) dX9_compare_22 (by decide) ?_
      exact ev_ireturn dX9_compare_27 ⟨_, rfl, rfl⟩ (rz ⟨by first | rw [if_pos (fun z => (not_congr hv2).mp (by omega) ⟨z.1, z.2.1⟩)] | rw [if_pos (fun z => (not_congr hv3).mp (by omega) ⟨z.1, z.2.2⟩)] | (rw [if_neg (fun z => z ⟨g2.1, g2.2, g3.2⟩)]; rfl), by first | exact q1.tr q3 | exact q1⟩)
