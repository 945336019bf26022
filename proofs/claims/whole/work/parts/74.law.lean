/-! ===== the law's cases (written by gen74.py) ===== -/
abbrev mL (N : Nat) (xs : Nat → Int32) : Md := (yL_law, cL_law, 4, some .boolean, room_1, fun g => gL g = N ∧ gs g = xs)
def lwF : Ps := fun r _ _ _ k n => r = some (vI 1) ∧ k ≤ 600000 ∧ n ≤ 7302250
section RulesS
variable {d : Md} {pc : Nat} {L : Lo} {S : List V} {K : List Kd} {M : Mm} {P : Pm} {k n : Nat} {Φ : Ps}
theorem ev_same {x off : Int} {tgt : Nat} (hd : decode (dc d) pc = .ok (.if_icmp .eq off, 3)) (ht : (pc : Int) + off = (tgt : Int)) (kt : Ev d tgt L S K M P k n Φ) : Ev d pc L (vI x :: vI x :: S) K M P k n Φ := by
  have key : Ev d pc L (vI (Int32.ofInt x).toInt :: vI (Int32.ofInt x).toInt :: S) K M P k n Φ := ev_icmp_eq hd ht (i_rng _) (i_rng _) (fun _ => kt) (fun h => absurd rfl h)
  intro p l e s m args below meth cd g Q F E X R H locs ls hH hS hl
  have := key p l e s m args below meth cd g Q F E X R H locs ls hH hS hl
  simp only [List.map_cons, cv, i_back] at this
  exact this
theorem ev_lsame {x : Int} (hd : decode (dc d) pc = .ok (.lcmp, 1)) (kt : Ev d (pc + 1) L (vI 0 :: S) K M P k n Φ) : Ev d pc L (vL x :: vL x :: S) K M P k n Φ := by
  have hc : cmpL (Int64.ofInt x).toInt (Int64.ofInt x).toInt = 0 := by unfold cmpL; rw [if_neg (by omega), if_pos rfl]
  have key : Ev d pc L (vL (Int64.ofInt x).toInt :: vL (Int64.ofInt x).toInt :: S) K M P k n Φ := ev_lcmp hd (l_rng _) (l_rng _) (by rw [hc]; exact kt)
  intro p l e s m args below meth cd g Q F E X R H locs ls hH hS hl
  have := key p l e s m args below meth cd g Q F E X R H locs ls hH hS hl
  simp only [List.map_cons, cv, l_back] at this
  exact this
end RulesS
theorem lw_letter {N j n : Nat} {xs : Nat → Int32} {M : Mm} (hN : N ≤ 3072) (hi : 6 * j + 6 ≤ N) (hS : SR M n j) (hP : ∀ M' n', SR M' n' (j + 1) → Ev (mL N xs) 807 [some (vX 0), some (vR 0), some (vR 54), some (vI (6 * (j : Int)))] [] KK M' PP 68 79546 lwF) : Ev (mL N xs) 140 [some (vX 0), some (vR 0), some (vR 54), some (vI (6 * (j : Int)))] [] KK M PP 68 79546 lwF := by
  first | refine ev_aload_n dL_law_140 rfl ?_ | refine ev_aloadX_n dL_law_140 rfl ?_
  first | refine ev_aload_n dL_law_141 rfl ?_ | refine ev_aloadX_n dL_law_141 rfl ?_
  refine ev_iload_n dL_law_142 rfl ?_
  refine ev_iconst dL_law_143 ?_
  refine ev_iadd dL_law_144 ?_
  refine ev_sald (N := N) (xs := xs) (fun _ h => h) dL_law_145 (by omega) (by omega) (by omega) ?_
  refine ev_callv (ci := 8) (lc_letter hS (i_rng _)) dL_law_146 tX8_letter.1 kL_13 tX8_letter.2.1 tX8_letter.2.2.1 rfl (by first | rfl | assumption) tX8_letter.2.2.2 ⟨⟨Nat.le_of_ble_eq_true rfl, Nat.le_of_ble_eq_true rfl⟩, Nat.le_of_ble_eq_true rfl, Nat.le_of_ble_eq_true rfl⟩ rfl (Nat.le_of_ble_eq_true rfl) ?_
  rintro r K' M1 P' ⟨rfl, rfl, ⟨z, rfl⟩, hC⟩
  first | refine ev_aload_n dL_law_149 rfl ?_ | refine ev_aloadX_n dL_law_149 rfl ?_
  first | refine ev_aload_n dL_law_150 rfl ?_ | refine ev_aloadX_n dL_law_150 rfl ?_
  refine ev_iload_n dL_law_151 rfl ?_
  refine ev_iconst dL_law_152 ?_
  refine ev_iadd dL_law_153 ?_
  refine ev_sald (N := N) (xs := xs) (fun _ h => h) dL_law_154 (by omega) (by omega) (by omega) ?_
  refine ev_callv (ci := 9) hC dL_law_155 tX9_letter.1 kL_17 tX9_letter.2.1 tX9_letter.2.2.1 rfl (by first | rfl | assumption) tX9_letter.2.2.2 ⟨⟨Nat.le_of_ble_eq_true rfl, Nat.le_of_ble_eq_true rfl⟩, Nat.le_of_ble_eq_true rfl, Nat.le_of_ble_eq_true rfl⟩ rfl (Nat.le_of_ble_eq_true rfl) ?_
  rintro r K' M2 P' ⟨rfl, rfl, rfl, n', hS2⟩
  refine ev_same (tgt := 807) dL_law_158 (by decide) ?_
  exact ev_to (hP _ _ hS2) (by repeat (first | exact trivial | refine ⟨rfl, ?_⟩)) rfl rfl rfl rfl
theorem lw_blank {N j n : Nat} {xs : Nat → Int32} {M : Mm} (hN : N ≤ 3072) (hi : 6 * j + 6 ≤ N) (hS : SR M n j) (hP : ∀ M' n', SR M' n' (j + 1) → Ev (mL N xs) 807 [some (vX 0), some (vR 0), some (vR 54), some (vI (6 * (j : Int)))] [] KK M' PP 68 79546 lwF) : Ev (mL N xs) 163 [some (vX 0), some (vR 0), some (vR 54), some (vI (6 * (j : Int)))] [] KK M PP 68 79546 lwF := by
  first | refine ev_aload_n dL_law_163 rfl ?_ | refine ev_aloadX_n dL_law_163 rfl ?_
  refine ev_callv (ci := 8) (lc_blank hS) dL_law_164 tX8_blank.1 kL_18 tX8_blank.2.1 tX8_blank.2.2.1 rfl (by first | rfl | assumption) tX8_blank.2.2.2 ⟨⟨Nat.le_of_ble_eq_true rfl, Nat.le_of_ble_eq_true rfl⟩, Nat.le_of_ble_eq_true rfl, Nat.le_of_ble_eq_true rfl⟩ rfl (Nat.le_of_ble_eq_true rfl) ?_
  rintro r K' M1 P' ⟨rfl, rfl, ⟨z, rfl⟩, hC⟩
  first | refine ev_aload_n dL_law_167 rfl ?_ | refine ev_aloadX_n dL_law_167 rfl ?_
  refine ev_callv (ci := 9) hC dL_law_168 tX9_blank.1 kL_22 tX9_blank.2.1 tX9_blank.2.2.1 rfl (by first | rfl | assumption) tX9_blank.2.2.2 ⟨⟨Nat.le_of_ble_eq_true rfl, Nat.le_of_ble_eq_true rfl⟩, Nat.le_of_ble_eq_true rfl, Nat.le_of_ble_eq_true rfl⟩ rfl (Nat.le_of_ble_eq_true rfl) ?_
  rintro r K' M2 P' ⟨rfl, rfl, rfl, n', hS2⟩
  refine ev_same (tgt := 807) dL_law_171 (by decide) ?_
  exact ev_to (hP _ _ hS2) (by repeat (first | exact trivial | refine ⟨rfl, ?_⟩)) rfl rfl rfl rfl
theorem lw_fault {N j n : Nat} {xs : Nat → Int32} {M : Mm} (hN : N ≤ 3072) (hi : 6 * j + 6 ≤ N) (hS : SR M n j) (hP : ∀ M' n', SR M' n' (j + 1) → Ev (mL N xs) 807 [some (vX 0), some (vR 0), some (vR 54), some (vI (6 * (j : Int)))] [] KK M' PP 68 79546 lwF) : Ev (mL N xs) 176 [some (vX 0), some (vR 0), some (vR 54), some (vI (6 * (j : Int)))] [] KK M PP 68 79546 lwF := by
  first | refine ev_aload_n dL_law_176 rfl ?_ | refine ev_aloadX_n dL_law_176 rfl ?_
  refine ev_callv (ci := 8) (lc_fault hS) dL_law_177 tX8_fault.1 kL_23 tX8_fault.2.1 tX8_fault.2.2.1 rfl (by first | rfl | assumption) tX8_fault.2.2.2 ⟨⟨Nat.le_of_ble_eq_true rfl, Nat.le_of_ble_eq_true rfl⟩, Nat.le_of_ble_eq_true rfl, Nat.le_of_ble_eq_true rfl⟩ rfl (Nat.le_of_ble_eq_true rfl) ?_
  rintro r K' M1 P' ⟨rfl, rfl, ⟨z, rfl⟩, hC⟩
  first | refine ev_aload_n dL_law_180 rfl ?_ | refine ev_aloadX_n dL_law_180 rfl ?_
  refine ev_callv (ci := 9) hC dL_law_181 tX9_fault.1 kL_26 tX9_fault.2.1 tX9_fault.2.2.1 rfl (by first | rfl | assumption) tX9_fault.2.2.2 ⟨⟨Nat.le_of_ble_eq_true rfl, Nat.le_of_ble_eq_true rfl⟩, Nat.le_of_ble_eq_true rfl, Nat.le_of_ble_eq_true rfl⟩ rfl (Nat.le_of_ble_eq_true rfl) ?_
  rintro r K' M2 P' ⟨rfl, rfl, rfl, n', hS2⟩
  refine ev_same (tgt := 807) dL_law_184 (by decide) ?_
  exact ev_to (hP _ _ hS2) (by repeat (first | exact trivial | refine ⟨rfl, ?_⟩)) rfl rfl rfl rfl
theorem lw_program {N j n : Nat} {xs : Nat → Int32} {M : Mm} (hN : N ≤ 3072) (hi : 6 * j + 6 ≤ N) (hS : SR M n j) (hP : ∀ M' n', SR M' n' (j + 1) → Ev (mL N xs) 807 [some (vX 0), some (vR 0), some (vR 54), some (vI (6 * (j : Int)))] [] KK M' PP 68 79546 lwF) : Ev (mL N xs) 189 [some (vX 0), some (vR 0), some (vR 54), some (vI (6 * (j : Int)))] [] KK M PP 68 79546 lwF := by
  first | refine ev_aload_n dL_law_189 rfl ?_ | refine ev_aloadX_n dL_law_189 rfl ?_
  refine ev_callv (ci := 8) (lc_program hS (by omega)) dL_law_190 tX8_program.1 kL_27 tX8_program.2.1 tX8_program.2.2.1 rfl (by first | rfl | assumption) tX8_program.2.2.2 ⟨⟨Nat.le_of_ble_eq_true rfl, Nat.le_of_ble_eq_true rfl⟩, Nat.le_of_ble_eq_true rfl, Nat.le_of_ble_eq_true rfl⟩ rfl (Nat.le_of_ble_eq_true rfl) ?_
  rintro r K' M1 P' ⟨rfl, rfl, ⟨z, rfl⟩, hC⟩
  first | refine ev_aload_n dL_law_193 rfl ?_ | refine ev_aloadX_n dL_law_193 rfl ?_
  refine ev_callv (ci := 9) hC dL_law_194 tX9_program.1 kL_30 tX9_program.2.1 tX9_program.2.2.1 rfl (by first | rfl | assumption) tX9_program.2.2.2 ⟨⟨Nat.le_of_ble_eq_true rfl, Nat.le_of_ble_eq_true rfl⟩, Nat.le_of_ble_eq_true rfl, Nat.le_of_ble_eq_true rfl⟩ rfl (Nat.le_of_ble_eq_true rfl) ?_
  rintro r K' M2 P' ⟨rfl, rfl, rfl, n', hS2⟩
  refine ev_same (tgt := 807) dL_law_197 (by decide) ?_
  exact ev_to (hP _ _ hS2) (by repeat (first | exact trivial | refine ⟨rfl, ?_⟩)) rfl rfl rfl rfl
theorem lw_step {N j n : Nat} {xs : Nat → Int32} {M : Mm} (hN : N ≤ 3072) (hi : 6 * j + 6 ≤ N) (hS : SR M n j) (hP : ∀ M' n', SR M' n' (j + 1) → Ev (mL N xs) 807 [some (vX 0), some (vR 0), some (vR 54), some (vI (6 * (j : Int)))] [] KK M' PP 68 79546 lwF) : Ev (mL N xs) 202 [some (vX 0), some (vR 0), some (vR 54), some (vI (6 * (j : Int)))] [] KK M PP 68 79546 lwF := by
  first | refine ev_aload_n dL_law_202 rfl ?_ | refine ev_aloadX_n dL_law_202 rfl ?_
  first | refine ev_aload_n dL_law_203 rfl ?_ | refine ev_aloadX_n dL_law_203 rfl ?_
  refine ev_iload_n dL_law_204 rfl ?_
  refine ev_iconst dL_law_205 ?_
  refine ev_iadd dL_law_206 ?_
  refine ev_sald (N := N) (xs := xs) (fun _ h => h) dL_law_207 (by omega) (by omega) (by omega) ?_
  first | refine ev_aload_n dL_law_208 rfl ?_ | refine ev_aloadX_n dL_law_208 rfl ?_
  refine ev_iload_n dL_law_209 rfl ?_
  refine ev_iconst dL_law_210 ?_
  refine ev_iadd dL_law_211 ?_
  refine ev_sald (N := N) (xs := xs) (fun _ h => h) dL_law_212 (by omega) (by omega) (by omega) ?_
  refine ev_callv (ci := 8) (lc_step hS (i_rng _) (i_rng _)) dL_law_213 tX8_step.1 kL_31 tX8_step.2.1 tX8_step.2.2.1 rfl (by first | rfl | assumption) tX8_step.2.2.2 ⟨⟨Nat.le_of_ble_eq_true rfl, Nat.le_of_ble_eq_true rfl⟩, Nat.le_of_ble_eq_true rfl, Nat.le_of_ble_eq_true rfl⟩ rfl (Nat.le_of_ble_eq_true rfl) ?_
  rintro r K' M1 P' ⟨rfl, rfl, ⟨z, rfl⟩, hC⟩
  first | refine ev_aload_n dL_law_216 rfl ?_ | refine ev_aloadX_n dL_law_216 rfl ?_
  first | refine ev_aload_n dL_law_217 rfl ?_ | refine ev_aloadX_n dL_law_217 rfl ?_
  refine ev_iload_n dL_law_218 rfl ?_
  refine ev_iconst dL_law_219 ?_
  refine ev_iadd dL_law_220 ?_
  refine ev_sald (N := N) (xs := xs) (fun _ h => h) dL_law_221 (by omega) (by omega) (by omega) ?_
  first | refine ev_aload_n dL_law_222 rfl ?_ | refine ev_aloadX_n dL_law_222 rfl ?_
  refine ev_iload_n dL_law_223 rfl ?_
  refine ev_iconst dL_law_224 ?_
  refine ev_iadd dL_law_225 ?_
  refine ev_sald (N := N) (xs := xs) (fun _ h => h) dL_law_226 (by omega) (by omega) (by omega) ?_
  refine ev_callv (ci := 9) hC dL_law_227 tX9_step.1 kL_35 tX9_step.2.1 tX9_step.2.2.1 rfl (by first | rfl | assumption) tX9_step.2.2.2 ⟨⟨Nat.le_of_ble_eq_true rfl, Nat.le_of_ble_eq_true rfl⟩, Nat.le_of_ble_eq_true rfl, Nat.le_of_ble_eq_true rfl⟩ rfl (Nat.le_of_ble_eq_true rfl) ?_
  rintro r K' M2 P' ⟨rfl, rfl, rfl, n', hS2⟩
  refine ev_same (tgt := 807) dL_law_230 (by decide) ?_
  exact ev_to (hP _ _ hS2) (by repeat (first | exact trivial | refine ⟨rfl, ?_⟩)) rfl rfl rfl rfl
theorem lw_as {N j n : Nat} {xs : Nat → Int32} {M : Mm} (hN : N ≤ 3072) (hi : 6 * j + 6 ≤ N) (hS : SR M n j) (hP : ∀ M' n', SR M' n' (j + 1) → Ev (mL N xs) 807 [some (vX 0), some (vR 0), some (vR 54), some (vI (6 * (j : Int)))] [] KK M' PP 68 79546 lwF) : Ev (mL N xs) 235 [some (vX 0), some (vR 0), some (vR 54), some (vI (6 * (j : Int)))] [] KK M PP 68 79546 lwF := by
  first | refine ev_aload_n dL_law_235 rfl ?_ | refine ev_aloadX_n dL_law_235 rfl ?_
  first | refine ev_aload_n dL_law_236 rfl ?_ | refine ev_aloadX_n dL_law_236 rfl ?_
  refine ev_iload_n dL_law_237 rfl ?_
  refine ev_iconst dL_law_238 ?_
  refine ev_iadd dL_law_239 ?_
  refine ev_sald (N := N) (xs := xs) (fun _ h => h) dL_law_240 (by omega) (by omega) (by omega) ?_
  first | refine ev_aload_n dL_law_241 rfl ?_ | refine ev_aloadX_n dL_law_241 rfl ?_
  refine ev_iload_n dL_law_242 rfl ?_
  refine ev_iconst dL_law_243 ?_
  refine ev_iadd dL_law_244 ?_
  refine ev_sald (N := N) (xs := xs) (fun _ h => h) dL_law_245 (by omega) (by omega) (by omega) ?_
  refine ev_callv (ci := 8) (lc_as hS (i_rng _) (i_rng _)) dL_law_246 tX8_as.1 kL_36 tX8_as.2.1 tX8_as.2.2.1 rfl (by first | rfl | assumption) tX8_as.2.2.2 ⟨⟨Nat.le_of_ble_eq_true rfl, Nat.le_of_ble_eq_true rfl⟩, Nat.le_of_ble_eq_true rfl, Nat.le_of_ble_eq_true rfl⟩ rfl (Nat.le_of_ble_eq_true rfl) ?_
  rintro r K' M1 P' ⟨rfl, rfl, ⟨z, rfl⟩, hC⟩
  first | refine ev_aload_n dL_law_249 rfl ?_ | refine ev_aloadX_n dL_law_249 rfl ?_
  first | refine ev_aload_n dL_law_250 rfl ?_ | refine ev_aloadX_n dL_law_250 rfl ?_
  refine ev_iload_n dL_law_251 rfl ?_
  refine ev_iconst dL_law_252 ?_
  refine ev_iadd dL_law_253 ?_
  refine ev_sald (N := N) (xs := xs) (fun _ h => h) dL_law_254 (by omega) (by omega) (by omega) ?_
  first | refine ev_aload_n dL_law_255 rfl ?_ | refine ev_aloadX_n dL_law_255 rfl ?_
  refine ev_iload_n dL_law_256 rfl ?_
  refine ev_iconst dL_law_257 ?_
  refine ev_iadd dL_law_258 ?_
  refine ev_sald (N := N) (xs := xs) (fun _ h => h) dL_law_259 (by omega) (by omega) (by omega) ?_
  refine ev_callv (ci := 9) hC dL_law_260 tX9_as.1 kL_39 tX9_as.2.1 tX9_as.2.2.1 rfl (by first | rfl | assumption) tX9_as.2.2.2 ⟨⟨Nat.le_of_ble_eq_true rfl, Nat.le_of_ble_eq_true rfl⟩, Nat.le_of_ble_eq_true rfl, Nat.le_of_ble_eq_true rfl⟩ rfl (Nat.le_of_ble_eq_true rfl) ?_
  rintro r K' M2 P' ⟨rfl, rfl, rfl, n', hS2⟩
  refine ev_same (tgt := 807) dL_law_263 (by decide) ?_
  exact ev_to (hP _ _ hS2) (by repeat (first | exact trivial | refine ⟨rfl, ?_⟩)) rfl rfl rfl rfl
theorem lw_bound {N j n : Nat} {xs : Nat → Int32} {M : Mm} (hN : N ≤ 3072) (hi : 6 * j + 6 ≤ N) (hS : SR M n j) (hP : ∀ M' n', SR M' n' (j + 1) → Ev (mL N xs) 807 [some (vX 0), some (vR 0), some (vR 54), some (vI (6 * (j : Int)))] [] KK M' PP 68 79546 lwF) : Ev (mL N xs) 268 [some (vX 0), some (vR 0), some (vR 54), some (vI (6 * (j : Int)))] [] KK M PP 68 79546 lwF := by
  first | refine ev_aload_n dL_law_268 rfl ?_ | refine ev_aloadX_n dL_law_268 rfl ?_
  first | refine ev_aload_n dL_law_269 rfl ?_ | refine ev_aloadX_n dL_law_269 rfl ?_
  refine ev_iload_n dL_law_270 rfl ?_
  refine ev_iconst dL_law_271 ?_
  refine ev_iadd dL_law_272 ?_
  refine ev_sald (N := N) (xs := xs) (fun _ h => h) dL_law_273 (by omega) (by omega) (by omega) ?_
  first | refine ev_aload_n dL_law_274 rfl ?_ | refine ev_aloadX_n dL_law_274 rfl ?_
  refine ev_iload_n dL_law_275 rfl ?_
  refine ev_iconst dL_law_276 ?_
  refine ev_iadd dL_law_277 ?_
  refine ev_sald (N := N) (xs := xs) (fun _ h => h) dL_law_278 (by omega) (by omega) (by omega) ?_
  first | refine ev_aload_n dL_law_279 rfl ?_ | refine ev_aloadX_n dL_law_279 rfl ?_
  refine ev_iload_n dL_law_280 rfl ?_
  refine ev_iconst dL_law_281 ?_
  refine ev_iadd dL_law_282 ?_
  refine ev_sald (N := N) (xs := xs) (fun _ h => h) dL_law_283 (by omega) (by omega) (by omega) ?_
  refine ev_callv (ci := 8) (lc_bound hS (i_rng _) (i_rng _) (i_rng _)) dL_law_284 tX8_bound.1 kL_40 tX8_bound.2.1 tX8_bound.2.2.1 rfl (by first | rfl | assumption) tX8_bound.2.2.2 ⟨⟨Nat.le_of_ble_eq_true rfl, Nat.le_of_ble_eq_true rfl⟩, Nat.le_of_ble_eq_true rfl, Nat.le_of_ble_eq_true rfl⟩ rfl (Nat.le_of_ble_eq_true rfl) ?_
  rintro r K' M1 P' ⟨rfl, rfl, ⟨z, rfl⟩, hC⟩
  first | refine ev_aload_n dL_law_287 rfl ?_ | refine ev_aloadX_n dL_law_287 rfl ?_
  first | refine ev_aload_n dL_law_288 rfl ?_ | refine ev_aloadX_n dL_law_288 rfl ?_
  refine ev_iload_n dL_law_289 rfl ?_
  refine ev_iconst dL_law_290 ?_
  refine ev_iadd dL_law_291 ?_
  refine ev_sald (N := N) (xs := xs) (fun _ h => h) dL_law_292 (by omega) (by omega) (by omega) ?_
  first | refine ev_aload_n dL_law_293 rfl ?_ | refine ev_aloadX_n dL_law_293 rfl ?_
  refine ev_iload_n dL_law_294 rfl ?_
  refine ev_iconst dL_law_295 ?_
  refine ev_iadd dL_law_296 ?_
  refine ev_sald (N := N) (xs := xs) (fun _ h => h) dL_law_297 (by omega) (by omega) (by omega) ?_
  first | refine ev_aload_n dL_law_298 rfl ?_ | refine ev_aloadX_n dL_law_298 rfl ?_
  refine ev_iload_n dL_law_299 rfl ?_
  refine ev_iconst dL_law_300 ?_
  refine ev_iadd dL_law_301 ?_
  refine ev_sald (N := N) (xs := xs) (fun _ h => h) dL_law_302 (by omega) (by omega) (by omega) ?_
  refine ev_callv (ci := 9) hC dL_law_303 tX9_bound.1 kL_44 tX9_bound.2.1 tX9_bound.2.2.1 rfl (by first | rfl | assumption) tX9_bound.2.2.2 ⟨⟨Nat.le_of_ble_eq_true rfl, Nat.le_of_ble_eq_true rfl⟩, Nat.le_of_ble_eq_true rfl, Nat.le_of_ble_eq_true rfl⟩ rfl (Nat.le_of_ble_eq_true rfl) ?_
  rintro r K' M2 P' ⟨rfl, rfl, rfl, n', hS2⟩
  refine ev_same (tgt := 807) dL_law_306 (by decide) ?_
  exact ev_to (hP _ _ hS2) (by repeat (first | exact trivial | refine ⟨rfl, ?_⟩)) rfl rfl rfl rfl
theorem lw_points {N j n : Nat} {xs : Nat → Int32} {M : Mm} (hN : N ≤ 3072) (hi : 6 * j + 6 ≤ N) (hS : SR M n j) (hP : ∀ M' n', SR M' n' (j + 1) → Ev (mL N xs) 807 [some (vX 0), some (vR 0), some (vR 54), some (vI (6 * (j : Int)))] [] KK M' PP 68 79546 lwF) : Ev (mL N xs) 311 [some (vX 0), some (vR 0), some (vR 54), some (vI (6 * (j : Int)))] [] KK M PP 68 79546 lwF := by
  first | refine ev_aload_n dL_law_311 rfl ?_ | refine ev_aloadX_n dL_law_311 rfl ?_
  first | refine ev_aload_n dL_law_312 rfl ?_ | refine ev_aloadX_n dL_law_312 rfl ?_
  refine ev_iload_n dL_law_313 rfl ?_
  refine ev_iconst dL_law_314 ?_
  refine ev_iadd dL_law_315 ?_
  refine ev_sald (N := N) (xs := xs) (fun _ h => h) dL_law_316 (by omega) (by omega) (by omega) ?_
  refine ev_callv (ci := 8) (lc_points hS (i_rng _)) dL_law_317 tX8_points.1 kL_45 tX8_points.2.1 tX8_points.2.2.1 rfl (by first | rfl | assumption) tX8_points.2.2.2 ⟨⟨Nat.le_of_ble_eq_true rfl, Nat.le_of_ble_eq_true rfl⟩, Nat.le_of_ble_eq_true rfl, Nat.le_of_ble_eq_true rfl⟩ rfl (Nat.le_of_ble_eq_true rfl) ?_
  rintro r K' M1 P' ⟨rfl, rfl, ⟨z, rfl⟩, hC⟩
  first | refine ev_aload_n dL_law_320 rfl ?_ | refine ev_aloadX_n dL_law_320 rfl ?_
  first | refine ev_aload_n dL_law_321 rfl ?_ | refine ev_aloadX_n dL_law_321 rfl ?_
  refine ev_iload_n dL_law_322 rfl ?_
  refine ev_iconst dL_law_323 ?_
  refine ev_iadd dL_law_324 ?_
  refine ev_sald (N := N) (xs := xs) (fun _ h => h) dL_law_325 (by omega) (by omega) (by omega) ?_
  refine ev_callv (ci := 9) hC dL_law_326 tX9_points.1 kL_48 tX9_points.2.1 tX9_points.2.2.1 rfl (by first | rfl | assumption) tX9_points.2.2.2 ⟨⟨Nat.le_of_ble_eq_true rfl, Nat.le_of_ble_eq_true rfl⟩, Nat.le_of_ble_eq_true rfl, Nat.le_of_ble_eq_true rfl⟩ rfl (Nat.le_of_ble_eq_true rfl) ?_
  rintro r K' M2 P' ⟨rfl, rfl, rfl, n', hS2⟩
  refine ev_same (tgt := 807) dL_law_329 (by decide) ?_
  exact ev_to (hP _ _ hS2) (by repeat (first | exact trivial | refine ⟨rfl, ?_⟩)) rfl rfl rfl rfl
theorem lw_has {N j n : Nat} {xs : Nat → Int32} {M : Mm} (hN : N ≤ 3072) (hi : 6 * j + 6 ≤ N) (hS : SR M n j) (hP : ∀ M' n', SR M' n' (j + 1) → Ev (mL N xs) 807 [some (vX 0), some (vR 0), some (vR 54), some (vI (6 * (j : Int)))] [] KK M' PP 68 79546 lwF) : Ev (mL N xs) 334 [some (vX 0), some (vR 0), some (vR 54), some (vI (6 * (j : Int)))] [] KK M PP 68 79546 lwF := by
  first | refine ev_aload_n dL_law_334 rfl ?_ | refine ev_aloadX_n dL_law_334 rfl ?_
  first | refine ev_aload_n dL_law_335 rfl ?_ | refine ev_aloadX_n dL_law_335 rfl ?_
  refine ev_iload_n dL_law_336 rfl ?_
  refine ev_iconst dL_law_337 ?_
  refine ev_iadd dL_law_338 ?_
  refine ev_sald (N := N) (xs := xs) (fun _ h => h) dL_law_339 (by omega) (by omega) (by omega) ?_
  first | refine ev_aload_n dL_law_340 rfl ?_ | refine ev_aloadX_n dL_law_340 rfl ?_
  refine ev_iload_n dL_law_341 rfl ?_
  refine ev_iconst dL_law_342 ?_
  refine ev_iadd dL_law_343 ?_
  refine ev_sald (N := N) (xs := xs) (fun _ h => h) dL_law_344 (by omega) (by omega) (by omega) ?_
  first | refine ev_aload_n dL_law_345 rfl ?_ | refine ev_aloadX_n dL_law_345 rfl ?_
  refine ev_iload_n dL_law_346 rfl ?_
  refine ev_iconst dL_law_347 ?_
  refine ev_iadd dL_law_348 ?_
  refine ev_sald (N := N) (xs := xs) (fun _ h => h) dL_law_349 (by omega) (by omega) (by omega) ?_
  first | refine ev_aload_n dL_law_350 rfl ?_ | refine ev_aloadX_n dL_law_350 rfl ?_
  refine ev_iload_n dL_law_351 rfl ?_
  refine ev_iconst dL_law_352 ?_
  refine ev_iadd dL_law_353 ?_
  refine ev_sald (N := N) (xs := xs) (fun _ h => h) dL_law_354 (by omega) (by omega) (by omega) ?_
  refine ev_callv (ci := 8) (lc_has hS (i_rng _) (i_rng _) (i_rng _) (i_rng _)) dL_law_355 tX8_has.1 kL_49 tX8_has.2.1 tX8_has.2.2.1 rfl (by first | rfl | assumption) tX8_has.2.2.2 ⟨⟨Nat.le_of_ble_eq_true rfl, Nat.le_of_ble_eq_true rfl⟩, Nat.le_of_ble_eq_true rfl, Nat.le_of_ble_eq_true rfl⟩ rfl (Nat.le_of_ble_eq_true rfl) ?_
  rintro r K' M1 P' ⟨rfl, rfl, ⟨z, rfl⟩, hC⟩
  first | refine ev_aload_n dL_law_358 rfl ?_ | refine ev_aloadX_n dL_law_358 rfl ?_
  first | refine ev_aload_n dL_law_359 rfl ?_ | refine ev_aloadX_n dL_law_359 rfl ?_
  refine ev_iload_n dL_law_360 rfl ?_
  refine ev_iconst dL_law_361 ?_
  refine ev_iadd dL_law_362 ?_
  refine ev_sald (N := N) (xs := xs) (fun _ h => h) dL_law_363 (by omega) (by omega) (by omega) ?_
  first | refine ev_aload_n dL_law_364 rfl ?_ | refine ev_aloadX_n dL_law_364 rfl ?_
  refine ev_iload_n dL_law_365 rfl ?_
  refine ev_iconst dL_law_366 ?_
  refine ev_iadd dL_law_367 ?_
  refine ev_sald (N := N) (xs := xs) (fun _ h => h) dL_law_368 (by omega) (by omega) (by omega) ?_
  first | refine ev_aload_n dL_law_369 rfl ?_ | refine ev_aloadX_n dL_law_369 rfl ?_
  refine ev_iload_n dL_law_370 rfl ?_
  refine ev_iconst dL_law_371 ?_
  refine ev_iadd dL_law_372 ?_
  refine ev_sald (N := N) (xs := xs) (fun _ h => h) dL_law_373 (by omega) (by omega) (by omega) ?_
  first | refine ev_aload_n dL_law_374 rfl ?_ | refine ev_aloadX_n dL_law_374 rfl ?_
  refine ev_iload_n dL_law_375 rfl ?_
  refine ev_iconst dL_law_376 ?_
  refine ev_iadd dL_law_377 ?_
  refine ev_sald (N := N) (xs := xs) (fun _ h => h) dL_law_378 (by omega) (by omega) (by omega) ?_
  refine ev_callv (ci := 9) hC dL_law_379 tX9_has.1 kL_53 tX9_has.2.1 tX9_has.2.2.1 rfl (by first | rfl | assumption) tX9_has.2.2.2 ⟨⟨Nat.le_of_ble_eq_true rfl, Nat.le_of_ble_eq_true rfl⟩, Nat.le_of_ble_eq_true rfl, Nat.le_of_ble_eq_true rfl⟩ rfl (Nat.le_of_ble_eq_true rfl) ?_
  rintro r K' M2 P' ⟨rfl, rfl, rfl, n', hS2⟩
  refine ev_same (tgt := 807) dL_law_382 (by decide) ?_
  exact ev_to (hP _ _ hS2) (by repeat (first | exact trivial | refine ⟨rfl, ?_⟩)) rfl rfl rfl rfl
theorem lw_share {N j n : Nat} {xs : Nat → Int32} {M : Mm} (hN : N ≤ 3072) (hi : 6 * j + 6 ≤ N) (hS : SR M n j) (hP : ∀ M' n', SR M' n' (j + 1) → Ev (mL N xs) 807 [some (vX 0), some (vR 0), some (vR 54), some (vI (6 * (j : Int)))] [] KK M' PP 68 79546 lwF) : Ev (mL N xs) 387 [some (vX 0), some (vR 0), some (vR 54), some (vI (6 * (j : Int)))] [] KK M PP 68 79546 lwF := by
  first | refine ev_aload_n dL_law_387 rfl ?_ | refine ev_aloadX_n dL_law_387 rfl ?_
  first | refine ev_aload_n dL_law_388 rfl ?_ | refine ev_aloadX_n dL_law_388 rfl ?_
  refine ev_iload_n dL_law_389 rfl ?_
  refine ev_iconst dL_law_390 ?_
  refine ev_iadd dL_law_391 ?_
  refine ev_sald (N := N) (xs := xs) (fun _ h => h) dL_law_392 (by omega) (by omega) (by omega) ?_
  refine ev_callv (ci := 8) (lc_share hS (i_rng _)) dL_law_393 tX8_share.1 kL_54 tX8_share.2.1 tX8_share.2.2.1 rfl (by first | rfl | assumption) tX8_share.2.2.2 ⟨⟨Nat.le_of_ble_eq_true rfl, Nat.le_of_ble_eq_true rfl⟩, Nat.le_of_ble_eq_true rfl, Nat.le_of_ble_eq_true rfl⟩ rfl (Nat.le_of_ble_eq_true rfl) ?_
  rintro r K' M1 P' ⟨rfl, rfl, ⟨z, rfl⟩, hC⟩
  first | refine ev_aload_n dL_law_396 rfl ?_ | refine ev_aloadX_n dL_law_396 rfl ?_
  first | refine ev_aload_n dL_law_397 rfl ?_ | refine ev_aloadX_n dL_law_397 rfl ?_
  refine ev_iload_n dL_law_398 rfl ?_
  refine ev_iconst dL_law_399 ?_
  refine ev_iadd dL_law_400 ?_
  refine ev_sald (N := N) (xs := xs) (fun _ h => h) dL_law_401 (by omega) (by omega) (by omega) ?_
  refine ev_callv (ci := 9) hC dL_law_402 tX9_share.1 kL_58 tX9_share.2.1 tX9_share.2.2.1 rfl (by first | rfl | assumption) tX9_share.2.2.2 ⟨⟨Nat.le_of_ble_eq_true rfl, Nat.le_of_ble_eq_true rfl⟩, Nat.le_of_ble_eq_true rfl, Nat.le_of_ble_eq_true rfl⟩ rfl (Nat.le_of_ble_eq_true rfl) ?_
  rintro r K' M2 P' ⟨rfl, rfl, rfl, n', hS2⟩
  refine ev_lsame dL_law_405 ?_
  refine ev_if_eq (tgt := 807) dL_law_406 (by decide) (by decide) (fun _ => ?_) (fun h => absurd rfl h)
  exact ev_to (hP _ _ hS2) (by repeat (first | exact trivial | refine ⟨rfl, ?_⟩)) rfl rfl rfl rfl
theorem lw_compare {N j n : Nat} {xs : Nat → Int32} {M : Mm} (hN : N ≤ 3072) (hi : 6 * j + 6 ≤ N) (hS : SR M n j) (hP : ∀ M' n', SR M' n' (j + 1) → Ev (mL N xs) 807 [some (vX 0), some (vR 0), some (vR 54), some (vI (6 * (j : Int)))] [] KK M' PP 68 79546 lwF) : Ev (mL N xs) 411 [some (vX 0), some (vR 0), some (vR 54), some (vI (6 * (j : Int)))] [] KK M PP 68 79546 lwF := by
  first | refine ev_aload_n dL_law_411 rfl ?_ | refine ev_aloadX_n dL_law_411 rfl ?_
  first | refine ev_aload_n dL_law_412 rfl ?_ | refine ev_aloadX_n dL_law_412 rfl ?_
  refine ev_iload_n dL_law_413 rfl ?_
  refine ev_iconst dL_law_414 ?_
  refine ev_iadd dL_law_415 ?_
  refine ev_sald (N := N) (xs := xs) (fun _ h => h) dL_law_416 (by omega) (by omega) (by omega) ?_
  first | refine ev_aload_n dL_law_417 rfl ?_ | refine ev_aloadX_n dL_law_417 rfl ?_
  refine ev_iload_n dL_law_418 rfl ?_
  refine ev_iconst dL_law_419 ?_
  refine ev_iadd dL_law_420 ?_
  refine ev_sald (N := N) (xs := xs) (fun _ h => h) dL_law_421 (by omega) (by omega) (by omega) ?_
  refine ev_callv (ci := 8) (lc_compare hS (i_rng _) (i_rng _)) dL_law_422 tX8_compare.1 kL_59 tX8_compare.2.1 tX8_compare.2.2.1 rfl (by first | rfl | assumption) tX8_compare.2.2.2 ⟨⟨Nat.le_of_ble_eq_true rfl, Nat.le_of_ble_eq_true rfl⟩, Nat.le_of_ble_eq_true rfl, Nat.le_of_ble_eq_true rfl⟩ rfl (Nat.le_of_ble_eq_true rfl) ?_
  rintro r K' M1 P' ⟨rfl, rfl, ⟨z, rfl⟩, hC⟩
  first | refine ev_aload_n dL_law_425 rfl ?_ | refine ev_aloadX_n dL_law_425 rfl ?_
  first | refine ev_aload_n dL_law_426 rfl ?_ | refine ev_aloadX_n dL_law_426 rfl ?_
  refine ev_iload_n dL_law_427 rfl ?_
  refine ev_iconst dL_law_428 ?_
  refine ev_iadd dL_law_429 ?_
  refine ev_sald (N := N) (xs := xs) (fun _ h => h) dL_law_430 (by omega) (by omega) (by omega) ?_
  first | refine ev_aload_n dL_law_431 rfl ?_ | refine ev_aloadX_n dL_law_431 rfl ?_
  refine ev_iload_n dL_law_432 rfl ?_
  refine ev_iconst dL_law_433 ?_
  refine ev_iadd dL_law_434 ?_
  refine ev_sald (N := N) (xs := xs) (fun _ h => h) dL_law_435 (by omega) (by omega) (by omega) ?_
  refine ev_callv (ci := 9) hC dL_law_436 tX9_compare.1 kL_62 tX9_compare.2.1 tX9_compare.2.2.1 rfl (by first | rfl | assumption) tX9_compare.2.2.2 ⟨⟨Nat.le_of_ble_eq_true rfl, Nat.le_of_ble_eq_true rfl⟩, Nat.le_of_ble_eq_true rfl, Nat.le_of_ble_eq_true rfl⟩ rfl (Nat.le_of_ble_eq_true rfl) ?_
  rintro r K' M2 P' ⟨rfl, rfl, rfl, n', hS2⟩
  refine ev_same (tgt := 807) dL_law_439 (by decide) ?_
  exact ev_to (hP _ _ hS2) (by repeat (first | exact trivial | refine ⟨rfl, ?_⟩)) rfl rfl rfl rfl
theorem lw_put {N j n : Nat} {xs : Nat → Int32} {M : Mm} (hN : N ≤ 3072) (hi : 6 * j + 6 ≤ N) (hS : SR M n j) (hP : ∀ M' n', SR M' n' (j + 1) → Ev (mL N xs) 807 [some (vX 0), some (vR 0), some (vR 54), some (vI (6 * (j : Int)))] [] KK M' PP 68 79546 lwF) : Ev (mL N xs) 444 [some (vX 0), some (vR 0), some (vR 54), some (vI (6 * (j : Int)))] [] KK M PP 68 79546 lwF := by
  first | refine ev_aload_n dL_law_444 rfl ?_ | refine ev_aloadX_n dL_law_444 rfl ?_
  first | refine ev_aload_n dL_law_445 rfl ?_ | refine ev_aloadX_n dL_law_445 rfl ?_
  refine ev_iload_n dL_law_446 rfl ?_
  refine ev_iconst dL_law_447 ?_
  refine ev_iadd dL_law_448 ?_
  refine ev_sald (N := N) (xs := xs) (fun _ h => h) dL_law_449 (by omega) (by omega) (by omega) ?_
  first | refine ev_aload_n dL_law_450 rfl ?_ | refine ev_aloadX_n dL_law_450 rfl ?_
  refine ev_iload_n dL_law_451 rfl ?_
  refine ev_iconst dL_law_452 ?_
  refine ev_iadd dL_law_453 ?_
  refine ev_sald (N := N) (xs := xs) (fun _ h => h) dL_law_454 (by omega) (by omega) (by omega) ?_
  first | refine ev_aload_n dL_law_455 rfl ?_ | refine ev_aloadX_n dL_law_455 rfl ?_
  refine ev_iload_n dL_law_456 rfl ?_
  refine ev_iconst dL_law_457 ?_
  refine ev_iadd dL_law_458 ?_
  refine ev_sald (N := N) (xs := xs) (fun _ h => h) dL_law_459 (by omega) (by omega) (by omega) ?_
  first | refine ev_aload_n dL_law_460 rfl ?_ | refine ev_aloadX_n dL_law_460 rfl ?_
  refine ev_iload_n dL_law_461 rfl ?_
  refine ev_iconst dL_law_462 ?_
  refine ev_iadd dL_law_463 ?_
  refine ev_sald (N := N) (xs := xs) (fun _ h => h) dL_law_464 (by omega) (by omega) (by omega) ?_
  first | refine ev_aload_n dL_law_465 rfl ?_ | refine ev_aloadX_n dL_law_465 rfl ?_
  refine ev_iload_n dL_law_466 rfl ?_
  refine ev_iconst dL_law_467 ?_
  refine ev_iadd dL_law_468 ?_
  refine ev_sald (N := N) (xs := xs) (fun _ h => h) dL_law_469 (by omega) (by omega) (by omega) ?_
  refine ev_callv (ci := 8) (lc_put hS (i_rng _) (i_rng _) (i_rng _) (i_rng _) (i_rng _)) dL_law_470 tX8_put.1 kL_63 tX8_put.2.1 tX8_put.2.2.1 rfl (by first | rfl | assumption) tX8_put.2.2.2 ⟨⟨Nat.le_of_ble_eq_true rfl, Nat.le_of_ble_eq_true rfl⟩, Nat.le_of_ble_eq_true rfl, Nat.le_of_ble_eq_true rfl⟩ rfl (Nat.le_of_ble_eq_true rfl) ?_
  rintro r K' M1 P' ⟨rfl, rfl, ⟨z, rfl⟩, hC⟩
  first | refine ev_aload_n dL_law_473 rfl ?_ | refine ev_aloadX_n dL_law_473 rfl ?_
  first | refine ev_aload_n dL_law_474 rfl ?_ | refine ev_aloadX_n dL_law_474 rfl ?_
  refine ev_iload_n dL_law_475 rfl ?_
  refine ev_iconst dL_law_476 ?_
  refine ev_iadd dL_law_477 ?_
  refine ev_sald (N := N) (xs := xs) (fun _ h => h) dL_law_478 (by omega) (by omega) (by omega) ?_
  first | refine ev_aload_n dL_law_479 rfl ?_ | refine ev_aloadX_n dL_law_479 rfl ?_
  refine ev_iload_n dL_law_480 rfl ?_
  refine ev_iconst dL_law_481 ?_
  refine ev_iadd dL_law_482 ?_
  refine ev_sald (N := N) (xs := xs) (fun _ h => h) dL_law_483 (by omega) (by omega) (by omega) ?_
  first | refine ev_aload_n dL_law_484 rfl ?_ | refine ev_aloadX_n dL_law_484 rfl ?_
  refine ev_iload_n dL_law_485 rfl ?_
  refine ev_iconst dL_law_486 ?_
  refine ev_iadd dL_law_487 ?_
  refine ev_sald (N := N) (xs := xs) (fun _ h => h) dL_law_488 (by omega) (by omega) (by omega) ?_
  first | refine ev_aload_n dL_law_489 rfl ?_ | refine ev_aloadX_n dL_law_489 rfl ?_
  refine ev_iload_n dL_law_490 rfl ?_
  refine ev_iconst dL_law_491 ?_
  refine ev_iadd dL_law_492 ?_
  refine ev_sald (N := N) (xs := xs) (fun _ h => h) dL_law_493 (by omega) (by omega) (by omega) ?_
  first | refine ev_aload_n dL_law_494 rfl ?_ | refine ev_aloadX_n dL_law_494 rfl ?_
  refine ev_iload_n dL_law_495 rfl ?_
  refine ev_iconst dL_law_496 ?_
  refine ev_iadd dL_law_497 ?_
  refine ev_sald (N := N) (xs := xs) (fun _ h => h) dL_law_498 (by omega) (by omega) (by omega) ?_
  refine ev_callv (ci := 9) hC dL_law_499 tX9_put.1 kL_67 tX9_put.2.1 tX9_put.2.2.1 rfl (by first | rfl | assumption) tX9_put.2.2.2 ⟨⟨Nat.le_of_ble_eq_true rfl, Nat.le_of_ble_eq_true rfl⟩, Nat.le_of_ble_eq_true rfl, Nat.le_of_ble_eq_true rfl⟩ rfl (Nat.le_of_ble_eq_true rfl) ?_
  rintro r K' M2 P' ⟨rfl, rfl, rfl, n', hS2⟩
  refine ev_same (tgt := 807) dL_law_502 (by decide) ?_
  exact ev_to (hP _ _ hS2) (by repeat (first | exact trivial | refine ⟨rfl, ?_⟩)) rfl rfl rfl rfl
theorem lw_take {N j n : Nat} {xs : Nat → Int32} {M : Mm} (hN : N ≤ 3072) (hi : 6 * j + 6 ≤ N) (hS : SR M n j) (hP : ∀ M' n', SR M' n' (j + 1) → Ev (mL N xs) 807 [some (vX 0), some (vR 0), some (vR 54), some (vI (6 * (j : Int)))] [] KK M' PP 68 79546 lwF) : Ev (mL N xs) 507 [some (vX 0), some (vR 0), some (vR 54), some (vI (6 * (j : Int)))] [] KK M PP 68 79546 lwF := by
  first | refine ev_aload_n dL_law_507 rfl ?_ | refine ev_aloadX_n dL_law_507 rfl ?_
  first | refine ev_aload_n dL_law_508 rfl ?_ | refine ev_aloadX_n dL_law_508 rfl ?_
  refine ev_iload_n dL_law_509 rfl ?_
  refine ev_iconst dL_law_510 ?_
  refine ev_iadd dL_law_511 ?_
  refine ev_sald (N := N) (xs := xs) (fun _ h => h) dL_law_512 (by omega) (by omega) (by omega) ?_
  refine ev_callv (ci := 8) (lc_take hS (i_rng _)) dL_law_513 tX8_take.1 kL_68 tX8_take.2.1 tX8_take.2.2.1 rfl (by first | rfl | assumption) tX8_take.2.2.2 ⟨⟨Nat.le_of_ble_eq_true rfl, Nat.le_of_ble_eq_true rfl⟩, Nat.le_of_ble_eq_true rfl, Nat.le_of_ble_eq_true rfl⟩ rfl (Nat.le_of_ble_eq_true rfl) ?_
  rintro r K' M1 P' ⟨rfl, rfl, ⟨z, rfl⟩, hC⟩
  first | refine ev_aload_n dL_law_516 rfl ?_ | refine ev_aloadX_n dL_law_516 rfl ?_
  first | refine ev_aload_n dL_law_517 rfl ?_ | refine ev_aloadX_n dL_law_517 rfl ?_
  refine ev_iload_n dL_law_518 rfl ?_
  refine ev_iconst dL_law_519 ?_
  refine ev_iadd dL_law_520 ?_
  refine ev_sald (N := N) (xs := xs) (fun _ h => h) dL_law_521 (by omega) (by omega) (by omega) ?_
  refine ev_callv (ci := 9) hC dL_law_522 tX9_take.1 kL_71 tX9_take.2.1 tX9_take.2.2.1 rfl (by first | rfl | assumption) tX9_take.2.2.2 ⟨⟨Nat.le_of_ble_eq_true rfl, Nat.le_of_ble_eq_true rfl⟩, Nat.le_of_ble_eq_true rfl, Nat.le_of_ble_eq_true rfl⟩ rfl (Nat.le_of_ble_eq_true rfl) ?_
  rintro r K' M2 P' ⟨rfl, rfl, rfl, n', hS2⟩
  refine ev_same (tgt := 807) dL_law_525 (by decide) ?_
  exact ev_to (hP _ _ hS2) (by repeat (first | exact trivial | refine ⟨rfl, ?_⟩)) rfl rfl rfl rfl
theorem lw_by {N j n : Nat} {xs : Nat → Int32} {M : Mm} (hN : N ≤ 3072) (hi : 6 * j + 6 ≤ N) (hS : SR M n j) (hP : ∀ M' n', SR M' n' (j + 1) → Ev (mL N xs) 807 [some (vX 0), some (vR 0), some (vR 54), some (vI (6 * (j : Int)))] [] KK M' PP 68 79546 lwF) : Ev (mL N xs) 530 [some (vX 0), some (vR 0), some (vR 54), some (vI (6 * (j : Int)))] [] KK M PP 68 79546 lwF := by
  first | refine ev_aload_n dL_law_530 rfl ?_ | refine ev_aloadX_n dL_law_530 rfl ?_
  first | refine ev_aload_n dL_law_531 rfl ?_ | refine ev_aloadX_n dL_law_531 rfl ?_
  refine ev_iload_n dL_law_532 rfl ?_
  refine ev_iconst dL_law_533 ?_
  refine ev_iadd dL_law_534 ?_
  refine ev_sald (N := N) (xs := xs) (fun _ h => h) dL_law_535 (by omega) (by omega) (by omega) ?_
  first | refine ev_aload_n dL_law_536 rfl ?_ | refine ev_aloadX_n dL_law_536 rfl ?_
  refine ev_iload_n dL_law_537 rfl ?_
  refine ev_iconst dL_law_538 ?_
  refine ev_iadd dL_law_539 ?_
  refine ev_sald (N := N) (xs := xs) (fun _ h => h) dL_law_540 (by omega) (by omega) (by omega) ?_
  refine ev_callv (ci := 8) (lc_by hS (i_rng _) (i_rng _)) dL_law_541 tX8_by.1 kL_72 tX8_by.2.1 tX8_by.2.2.1 rfl (by first | rfl | assumption) tX8_by.2.2.2 ⟨⟨Nat.le_of_ble_eq_true rfl, Nat.le_of_ble_eq_true rfl⟩, Nat.le_of_ble_eq_true rfl, Nat.le_of_ble_eq_true rfl⟩ rfl (Nat.le_of_ble_eq_true rfl) ?_
  rintro r K' M1 P' ⟨rfl, rfl, ⟨z, rfl⟩, hC⟩
  first | refine ev_aload_n dL_law_544 rfl ?_ | refine ev_aloadX_n dL_law_544 rfl ?_
  first | refine ev_aload_n dL_law_545 rfl ?_ | refine ev_aloadX_n dL_law_545 rfl ?_
  refine ev_iload_n dL_law_546 rfl ?_
  refine ev_iconst dL_law_547 ?_
  refine ev_iadd dL_law_548 ?_
  refine ev_sald (N := N) (xs := xs) (fun _ h => h) dL_law_549 (by omega) (by omega) (by omega) ?_
  first | refine ev_aload_n dL_law_550 rfl ?_ | refine ev_aloadX_n dL_law_550 rfl ?_
  refine ev_iload_n dL_law_551 rfl ?_
  refine ev_iconst dL_law_552 ?_
  refine ev_iadd dL_law_553 ?_
  refine ev_sald (N := N) (xs := xs) (fun _ h => h) dL_law_554 (by omega) (by omega) (by omega) ?_
  refine ev_callv (ci := 9) hC dL_law_555 tX9_by.1 kL_75 tX9_by.2.1 tX9_by.2.2.1 rfl (by first | rfl | assumption) tX9_by.2.2.2 ⟨⟨Nat.le_of_ble_eq_true rfl, Nat.le_of_ble_eq_true rfl⟩, Nat.le_of_ble_eq_true rfl, Nat.le_of_ble_eq_true rfl⟩ rfl (Nat.le_of_ble_eq_true rfl) ?_
  rintro r K' M2 P' ⟨rfl, rfl, rfl, n', hS2⟩
  refine ev_same (tgt := 807) dL_law_558 (by decide) ?_
  exact ev_to (hP _ _ hS2) (by repeat (first | exact trivial | refine ⟨rfl, ?_⟩)) rfl rfl rfl rfl
theorem lw_rack {N j n : Nat} {xs : Nat → Int32} {M : Mm} (hN : N ≤ 3072) (hi : 6 * j + 6 ≤ N) (hS : SR M n j) (hP : ∀ M' n', SR M' n' (j + 1) → Ev (mL N xs) 807 [some (vX 0), some (vR 0), some (vR 54), some (vI (6 * (j : Int)))] [] KK M' PP 68 79546 lwF) : Ev (mL N xs) 563 [some (vX 0), some (vR 0), some (vR 54), some (vI (6 * (j : Int)))] [] KK M PP 68 79546 lwF := by
  first | refine ev_aload_n dL_law_563 rfl ?_ | refine ev_aloadX_n dL_law_563 rfl ?_
  first | refine ev_aload_n dL_law_564 rfl ?_ | refine ev_aloadX_n dL_law_564 rfl ?_
  refine ev_iload_n dL_law_565 rfl ?_
  refine ev_iconst dL_law_566 ?_
  refine ev_iadd dL_law_567 ?_
  refine ev_sald (N := N) (xs := xs) (fun _ h => h) dL_law_568 (by omega) (by omega) (by omega) ?_
  first | refine ev_aload_n dL_law_569 rfl ?_ | refine ev_aloadX_n dL_law_569 rfl ?_
  refine ev_iload_n dL_law_570 rfl ?_
  refine ev_iconst dL_law_571 ?_
  refine ev_iadd dL_law_572 ?_
  refine ev_sald (N := N) (xs := xs) (fun _ h => h) dL_law_573 (by omega) (by omega) (by omega) ?_
  refine ev_callv (ci := 8) (lc_rack hS (i_rng _) (i_rng _)) dL_law_574 tX8_rack.1 kL_76 tX8_rack.2.1 tX8_rack.2.2.1 rfl (by first | rfl | assumption) tX8_rack.2.2.2 ⟨⟨Nat.le_of_ble_eq_true rfl, Nat.le_of_ble_eq_true rfl⟩, Nat.le_of_ble_eq_true rfl, Nat.le_of_ble_eq_true rfl⟩ rfl (Nat.le_of_ble_eq_true rfl) ?_
  rintro r K' M1 P' ⟨rfl, rfl, ⟨z, rfl⟩, hC⟩
  first | refine ev_aload_n dL_law_577 rfl ?_ | refine ev_aloadX_n dL_law_577 rfl ?_
  first | refine ev_aload_n dL_law_578 rfl ?_ | refine ev_aloadX_n dL_law_578 rfl ?_
  refine ev_iload_n dL_law_579 rfl ?_
  refine ev_iconst dL_law_580 ?_
  refine ev_iadd dL_law_581 ?_
  refine ev_sald (N := N) (xs := xs) (fun _ h => h) dL_law_582 (by omega) (by omega) (by omega) ?_
  first | refine ev_aload_n dL_law_583 rfl ?_ | refine ev_aloadX_n dL_law_583 rfl ?_
  refine ev_iload_n dL_law_584 rfl ?_
  refine ev_iconst dL_law_585 ?_
  refine ev_iadd dL_law_586 ?_
  refine ev_sald (N := N) (xs := xs) (fun _ h => h) dL_law_587 (by omega) (by omega) (by omega) ?_
  refine ev_callv (ci := 9) hC dL_law_588 tX9_rack.1 kL_79 tX9_rack.2.1 tX9_rack.2.2.1 rfl (by first | rfl | assumption) tX9_rack.2.2.2 ⟨⟨Nat.le_of_ble_eq_true rfl, Nat.le_of_ble_eq_true rfl⟩, Nat.le_of_ble_eq_true rfl, Nat.le_of_ble_eq_true rfl⟩ rfl (Nat.le_of_ble_eq_true rfl) ?_
  rintro r K' M2 P' ⟨rfl, rfl, rfl, n', hS2⟩
  refine ev_same (tgt := 807) dL_law_591 (by decide) ?_
  exact ev_to (hP _ _ hS2) (by repeat (first | exact trivial | refine ⟨rfl, ?_⟩)) rfl rfl rfl rfl
theorem lw_racked {N j n : Nat} {xs : Nat → Int32} {M : Mm} (hN : N ≤ 3072) (hi : 6 * j + 6 ≤ N) (hS : SR M n j) (hP : ∀ M' n', SR M' n' (j + 1) → Ev (mL N xs) 807 [some (vX 0), some (vR 0), some (vR 54), some (vI (6 * (j : Int)))] [] KK M' PP 68 79546 lwF) : Ev (mL N xs) 596 [some (vX 0), some (vR 0), some (vR 54), some (vI (6 * (j : Int)))] [] KK M PP 68 79546 lwF := by
  first | refine ev_aload_n dL_law_596 rfl ?_ | refine ev_aloadX_n dL_law_596 rfl ?_
  first | refine ev_aload_n dL_law_597 rfl ?_ | refine ev_aloadX_n dL_law_597 rfl ?_
  refine ev_iload_n dL_law_598 rfl ?_
  refine ev_iconst dL_law_599 ?_
  refine ev_iadd dL_law_600 ?_
  refine ev_sald (N := N) (xs := xs) (fun _ h => h) dL_law_601 (by omega) (by omega) (by omega) ?_
  first | refine ev_aload_n dL_law_602 rfl ?_ | refine ev_aloadX_n dL_law_602 rfl ?_
  refine ev_iload_n dL_law_603 rfl ?_
  refine ev_iconst dL_law_604 ?_
  refine ev_iadd dL_law_605 ?_
  refine ev_sald (N := N) (xs := xs) (fun _ h => h) dL_law_606 (by omega) (by omega) (by omega) ?_
  refine ev_callv (ci := 8) (lc_racked hS (i_rng _) (i_rng _)) dL_law_607 tX8_racked.1 kL_80 tX8_racked.2.1 tX8_racked.2.2.1 rfl (by first | rfl | assumption) tX8_racked.2.2.2 ⟨⟨Nat.le_of_ble_eq_true rfl, Nat.le_of_ble_eq_true rfl⟩, Nat.le_of_ble_eq_true rfl, Nat.le_of_ble_eq_true rfl⟩ rfl (Nat.le_of_ble_eq_true rfl) ?_
  rintro r K' M1 P' ⟨rfl, rfl, ⟨z, rfl⟩, hC⟩
  first | refine ev_aload_n dL_law_610 rfl ?_ | refine ev_aloadX_n dL_law_610 rfl ?_
  first | refine ev_aload_n dL_law_611 rfl ?_ | refine ev_aloadX_n dL_law_611 rfl ?_
  refine ev_iload_n dL_law_612 rfl ?_
  refine ev_iconst dL_law_613 ?_
  refine ev_iadd dL_law_614 ?_
  refine ev_sald (N := N) (xs := xs) (fun _ h => h) dL_law_615 (by omega) (by omega) (by omega) ?_
  first | refine ev_aload_n dL_law_616 rfl ?_ | refine ev_aloadX_n dL_law_616 rfl ?_
  refine ev_iload_n dL_law_617 rfl ?_
  refine ev_iconst dL_law_618 ?_
  refine ev_iadd dL_law_619 ?_
  refine ev_sald (N := N) (xs := xs) (fun _ h => h) dL_law_620 (by omega) (by omega) (by omega) ?_
  refine ev_callv (ci := 9) hC dL_law_621 tX9_racked.1 kL_83 tX9_racked.2.1 tX9_racked.2.2.1 rfl (by first | rfl | assumption) tX9_racked.2.2.2 ⟨⟨Nat.le_of_ble_eq_true rfl, Nat.le_of_ble_eq_true rfl⟩, Nat.le_of_ble_eq_true rfl, Nat.le_of_ble_eq_true rfl⟩ rfl (Nat.le_of_ble_eq_true rfl) ?_
  rintro r K' M2 P' ⟨rfl, rfl, rfl, n', hS2⟩
  refine ev_same (tgt := 807) dL_law_624 (by decide) ?_
  exact ev_to (hP _ _ hS2) (by repeat (first | exact trivial | refine ⟨rfl, ?_⟩)) rfl rfl rfl rfl
theorem lw_see {N j n : Nat} {xs : Nat → Int32} {M : Mm} (hN : N ≤ 3072) (hi : 6 * j + 6 ≤ N) (hS : SR M n j) (hP : ∀ M' n', SR M' n' (j + 1) → Ev (mL N xs) 807 [some (vX 0), some (vR 0), some (vR 54), some (vI (6 * (j : Int)))] [] KK M' PP 68 79546 lwF) : Ev (mL N xs) 629 [some (vX 0), some (vR 0), some (vR 54), some (vI (6 * (j : Int)))] [] KK M PP 68 79546 lwF := by
  by_cases hz : (xs (6 * (j : Int) + 3).toNat).toInt = 0
  · first | refine ev_aload_n dL_law_629 rfl ?_ | refine ev_aloadX_n dL_law_629 rfl ?_
    first | refine ev_aload_n dL_law_630 rfl ?_ | refine ev_aloadX_n dL_law_630 rfl ?_
    refine ev_iload_n dL_law_631 rfl ?_
    refine ev_iconst dL_law_632 ?_
    refine ev_iadd dL_law_633 ?_
    refine ev_sald (N := N) (xs := xs) (fun _ h => h) dL_law_634 (by omega) (by omega) (by omega) ?_
    first | refine ev_aload_n dL_law_635 rfl ?_ | refine ev_aloadX_n dL_law_635 rfl ?_
    refine ev_iload_n dL_law_636 rfl ?_
    refine ev_iconst dL_law_637 ?_
    refine ev_iadd dL_law_638 ?_
    refine ev_sald (N := N) (xs := xs) (fun _ h => h) dL_law_639 (by omega) (by omega) (by omega) ?_
    first | refine ev_aload_n dL_law_640 rfl ?_ | refine ev_aloadX_n dL_law_640 rfl ?_
    refine ev_iload_n dL_law_641 rfl ?_
    refine ev_iconst dL_law_642 ?_
    refine ev_iadd dL_law_643 ?_
    refine ev_sald (N := N) (xs := xs) (fun _ h => h) dL_law_644 (by omega) (by omega) (by omega) ?_
    refine ev_if_eq (tgt := 652) dL_law_645 (by decide) (i_rng _) (fun _ => ?_) (fun h => absurd hz h)
    refine ev_iconst dL_law_652 ?_
    refine ev_callv (ci := 8) (lc_see hS (i_rng _) (i_rng _) (by first | exact Or.inl rfl | exact Or.inr rfl)) dL_law_653 tX8_see.1 kL_84 tX8_see.2.1 tX8_see.2.2.1 rfl (by first | rfl | assumption) tX8_see.2.2.2 ⟨⟨Nat.le_of_ble_eq_true rfl, Nat.le_of_ble_eq_true rfl⟩, Nat.le_of_ble_eq_true rfl, Nat.le_of_ble_eq_true rfl⟩ rfl (Nat.le_of_ble_eq_true rfl) ?_
    rintro r K' M1 P' ⟨rfl, rfl, ⟨z, rfl⟩, hC⟩
    first | refine ev_aload_n dL_law_656 rfl ?_ | refine ev_aloadX_n dL_law_656 rfl ?_
    first | refine ev_aload_n dL_law_657 rfl ?_ | refine ev_aloadX_n dL_law_657 rfl ?_
    refine ev_iload_n dL_law_658 rfl ?_
    refine ev_iconst dL_law_659 ?_
    refine ev_iadd dL_law_660 ?_
    refine ev_sald (N := N) (xs := xs) (fun _ h => h) dL_law_661 (by omega) (by omega) (by omega) ?_
    first | refine ev_aload_n dL_law_662 rfl ?_ | refine ev_aloadX_n dL_law_662 rfl ?_
    refine ev_iload_n dL_law_663 rfl ?_
    refine ev_iconst dL_law_664 ?_
    refine ev_iadd dL_law_665 ?_
    refine ev_sald (N := N) (xs := xs) (fun _ h => h) dL_law_666 (by omega) (by omega) (by omega) ?_
    first | refine ev_aload_n dL_law_667 rfl ?_ | refine ev_aloadX_n dL_law_667 rfl ?_
    refine ev_iload_n dL_law_668 rfl ?_
    refine ev_iconst dL_law_669 ?_
    refine ev_iadd dL_law_670 ?_
    refine ev_sald (N := N) (xs := xs) (fun _ h => h) dL_law_671 (by omega) (by omega) (by omega) ?_
    refine ev_if_eq (tgt := 679) dL_law_672 (by decide) (i_rng _) (fun _ => ?_) (fun h => absurd hz h)
    refine ev_iconst dL_law_679 ?_
    refine ev_callv (ci := 9) hC dL_law_680 tX9_see.1 kL_88 tX9_see.2.1 tX9_see.2.2.1 rfl (by first | rfl | assumption) tX9_see.2.2.2 ⟨⟨Nat.le_of_ble_eq_true rfl, Nat.le_of_ble_eq_true rfl⟩, Nat.le_of_ble_eq_true rfl, Nat.le_of_ble_eq_true rfl⟩ rfl (Nat.le_of_ble_eq_true rfl) ?_
    rintro r K' M2 P' ⟨rfl, rfl, rfl, n', hS2⟩
    refine ev_same (tgt := 807) dL_law_683 (by decide) ?_
    exact ev_to (hP _ _ hS2) (by repeat (first | exact trivial | refine ⟨rfl, ?_⟩)) rfl rfl rfl rfl
  · first | refine ev_aload_n dL_law_629 rfl ?_ | refine ev_aloadX_n dL_law_629 rfl ?_
    first | refine ev_aload_n dL_law_630 rfl ?_ | refine ev_aloadX_n dL_law_630 rfl ?_
    refine ev_iload_n dL_law_631 rfl ?_
    refine ev_iconst dL_law_632 ?_
    refine ev_iadd dL_law_633 ?_
    refine ev_sald (N := N) (xs := xs) (fun _ h => h) dL_law_634 (by omega) (by omega) (by omega) ?_
    first | refine ev_aload_n dL_law_635 rfl ?_ | refine ev_aloadX_n dL_law_635 rfl ?_
    refine ev_iload_n dL_law_636 rfl ?_
    refine ev_iconst dL_law_637 ?_
    refine ev_iadd dL_law_638 ?_
    refine ev_sald (N := N) (xs := xs) (fun _ h => h) dL_law_639 (by omega) (by omega) (by omega) ?_
    first | refine ev_aload_n dL_law_640 rfl ?_ | refine ev_aloadX_n dL_law_640 rfl ?_
    refine ev_iload_n dL_law_641 rfl ?_
    refine ev_iconst dL_law_642 ?_
    refine ev_iadd dL_law_643 ?_
    refine ev_sald (N := N) (xs := xs) (fun _ h => h) dL_law_644 (by omega) (by omega) (by omega) ?_
    refine ev_if_eq (tgt := 652) dL_law_645 (by decide) (i_rng _) (fun h => absurd h hz) (fun _ => ?_)
    refine ev_iconst dL_law_648 ?_
    refine ev_goto (tgt := 653) dL_law_649 (by decide) ?_
    refine ev_callv (ci := 8) (lc_see hS (i_rng _) (i_rng _) (by first | exact Or.inl rfl | exact Or.inr rfl)) dL_law_653 tX8_see.1 kL_84 tX8_see.2.1 tX8_see.2.2.1 rfl (by first | rfl | assumption) tX8_see.2.2.2 ⟨⟨Nat.le_of_ble_eq_true rfl, Nat.le_of_ble_eq_true rfl⟩, Nat.le_of_ble_eq_true rfl, Nat.le_of_ble_eq_true rfl⟩ rfl (Nat.le_of_ble_eq_true rfl) ?_
    rintro r K' M1 P' ⟨rfl, rfl, ⟨z, rfl⟩, hC⟩
    first | refine ev_aload_n dL_law_656 rfl ?_ | refine ev_aloadX_n dL_law_656 rfl ?_
    first | refine ev_aload_n dL_law_657 rfl ?_ | refine ev_aloadX_n dL_law_657 rfl ?_
    refine ev_iload_n dL_law_658 rfl ?_
    refine ev_iconst dL_law_659 ?_
    refine ev_iadd dL_law_660 ?_
    refine ev_sald (N := N) (xs := xs) (fun _ h => h) dL_law_661 (by omega) (by omega) (by omega) ?_
    first | refine ev_aload_n dL_law_662 rfl ?_ | refine ev_aloadX_n dL_law_662 rfl ?_
    refine ev_iload_n dL_law_663 rfl ?_
    refine ev_iconst dL_law_664 ?_
    refine ev_iadd dL_law_665 ?_
    refine ev_sald (N := N) (xs := xs) (fun _ h => h) dL_law_666 (by omega) (by omega) (by omega) ?_
    first | refine ev_aload_n dL_law_667 rfl ?_ | refine ev_aloadX_n dL_law_667 rfl ?_
    refine ev_iload_n dL_law_668 rfl ?_
    refine ev_iconst dL_law_669 ?_
    refine ev_iadd dL_law_670 ?_
    refine ev_sald (N := N) (xs := xs) (fun _ h => h) dL_law_671 (by omega) (by omega) (by omega) ?_
    refine ev_if_eq (tgt := 679) dL_law_672 (by decide) (i_rng _) (fun h => absurd h hz) (fun _ => ?_)
    refine ev_iconst dL_law_675 ?_
    refine ev_goto (tgt := 680) dL_law_676 (by decide) ?_
    refine ev_callv (ci := 9) hC dL_law_680 tX9_see.1 kL_88 tX9_see.2.1 tX9_see.2.2.1 rfl (by first | rfl | assumption) tX9_see.2.2.2 ⟨⟨Nat.le_of_ble_eq_true rfl, Nat.le_of_ble_eq_true rfl⟩, Nat.le_of_ble_eq_true rfl, Nat.le_of_ble_eq_true rfl⟩ rfl (Nat.le_of_ble_eq_true rfl) ?_
    rintro r K' M2 P' ⟨rfl, rfl, rfl, n', hS2⟩
    refine ev_same (tgt := 807) dL_law_683 (by decide) ?_
    exact ev_to (hP _ _ hS2) (by repeat (first | exact trivial | refine ⟨rfl, ?_⟩)) rfl rfl rfl rfl
theorem lw_forget {N j n : Nat} {xs : Nat → Int32} {M : Mm} (hN : N ≤ 3072) (hi : 6 * j + 6 ≤ N) (hS : SR M n j) (hP : ∀ M' n', SR M' n' (j + 1) → Ev (mL N xs) 807 [some (vX 0), some (vR 0), some (vR 54), some (vI (6 * (j : Int)))] [] KK M' PP 68 79546 lwF) : Ev (mL N xs) 688 [some (vX 0), some (vR 0), some (vR 54), some (vI (6 * (j : Int)))] [] KK M PP 68 79546 lwF := by
  first | refine ev_aload_n dL_law_688 rfl ?_ | refine ev_aloadX_n dL_law_688 rfl ?_
  refine ev_callv (ci := 8) (lc_forget hS) dL_law_689 tX8_forget.1 kL_89 tX8_forget.2.1 tX8_forget.2.2.1 rfl (by first | rfl | assumption) tX8_forget.2.2.2 ⟨⟨Nat.le_of_ble_eq_true rfl, Nat.le_of_ble_eq_true rfl⟩, Nat.le_of_ble_eq_true rfl, Nat.le_of_ble_eq_true rfl⟩ rfl (Nat.le_of_ble_eq_true rfl) ?_
  rintro r K' M1 P' ⟨rfl, rfl, ⟨z, rfl⟩, hC⟩
  first | refine ev_aload_n dL_law_692 rfl ?_ | refine ev_aloadX_n dL_law_692 rfl ?_
  refine ev_callv (ci := 9) hC dL_law_693 tX9_forget.1 kL_92 tX9_forget.2.1 tX9_forget.2.2.1 rfl (by first | rfl | assumption) tX9_forget.2.2.2 ⟨⟨Nat.le_of_ble_eq_true rfl, Nat.le_of_ble_eq_true rfl⟩, Nat.le_of_ble_eq_true rfl, Nat.le_of_ble_eq_true rfl⟩ rfl (Nat.le_of_ble_eq_true rfl) ?_
  rintro r K' M2 P' ⟨rfl, rfl, rfl, n', hS2⟩
  refine ev_same (tgt := 807) dL_law_696 (by decide) ?_
  exact ev_to (hP _ _ hS2) (by repeat (first | exact trivial | refine ⟨rfl, ?_⟩)) rfl rfl rfl rfl
theorem lw_drawn {N j n : Nat} {xs : Nat → Int32} {M : Mm} (hN : N ≤ 3072) (hi : 6 * j + 6 ≤ N) (hS : SR M n j) (hP : ∀ M' n', SR M' n' (j + 1) → Ev (mL N xs) 807 [some (vX 0), some (vR 0), some (vR 54), some (vI (6 * (j : Int)))] [] KK M' PP 68 79546 lwF) : Ev (mL N xs) 701 [some (vX 0), some (vR 0), some (vR 54), some (vI (6 * (j : Int)))] [] KK M PP 68 79546 lwF := by
  first | refine ev_aload_n dL_law_701 rfl ?_ | refine ev_aloadX_n dL_law_701 rfl ?_
  first | refine ev_aload_n dL_law_702 rfl ?_ | refine ev_aloadX_n dL_law_702 rfl ?_
  refine ev_iload_n dL_law_703 rfl ?_
  refine ev_iconst dL_law_704 ?_
  refine ev_iadd dL_law_705 ?_
  refine ev_sald (N := N) (xs := xs) (fun _ h => h) dL_law_706 (by omega) (by omega) (by omega) ?_
  first | refine ev_aload_n dL_law_707 rfl ?_ | refine ev_aloadX_n dL_law_707 rfl ?_
  refine ev_iload_n dL_law_708 rfl ?_
  refine ev_iconst dL_law_709 ?_
  refine ev_iadd dL_law_710 ?_
  refine ev_sald (N := N) (xs := xs) (fun _ h => h) dL_law_711 (by omega) (by omega) (by omega) ?_
  first | refine ev_aload_n dL_law_712 rfl ?_ | refine ev_aloadX_n dL_law_712 rfl ?_
  refine ev_iload_n dL_law_713 rfl ?_
  refine ev_iconst dL_law_714 ?_
  refine ev_iadd dL_law_715 ?_
  refine ev_sald (N := N) (xs := xs) (fun _ h => h) dL_law_716 (by omega) (by omega) (by omega) ?_
  refine ev_callv (ci := 8) (lc_drawn hS (i_rng _) (i_rng _) (i_rng _)) dL_law_717 tX8_drawn.1 kL_93 tX8_drawn.2.1 tX8_drawn.2.2.1 rfl (by first | rfl | assumption) tX8_drawn.2.2.2 ⟨⟨Nat.le_of_ble_eq_true rfl, Nat.le_of_ble_eq_true rfl⟩, Nat.le_of_ble_eq_true rfl, Nat.le_of_ble_eq_true rfl⟩ rfl (Nat.le_of_ble_eq_true rfl) ?_
  rintro r K' M1 P' ⟨rfl, rfl, ⟨z, rfl⟩, hC⟩
  first | refine ev_aload_n dL_law_720 rfl ?_ | refine ev_aloadX_n dL_law_720 rfl ?_
  first | refine ev_aload_n dL_law_721 rfl ?_ | refine ev_aloadX_n dL_law_721 rfl ?_
  refine ev_iload_n dL_law_722 rfl ?_
  refine ev_iconst dL_law_723 ?_
  refine ev_iadd dL_law_724 ?_
  refine ev_sald (N := N) (xs := xs) (fun _ h => h) dL_law_725 (by omega) (by omega) (by omega) ?_
  first | refine ev_aload_n dL_law_726 rfl ?_ | refine ev_aloadX_n dL_law_726 rfl ?_
  refine ev_iload_n dL_law_727 rfl ?_
  refine ev_iconst dL_law_728 ?_
  refine ev_iadd dL_law_729 ?_
  refine ev_sald (N := N) (xs := xs) (fun _ h => h) dL_law_730 (by omega) (by omega) (by omega) ?_
  first | refine ev_aload_n dL_law_731 rfl ?_ | refine ev_aloadX_n dL_law_731 rfl ?_
  refine ev_iload_n dL_law_732 rfl ?_
  refine ev_iconst dL_law_733 ?_
  refine ev_iadd dL_law_734 ?_
  refine ev_sald (N := N) (xs := xs) (fun _ h => h) dL_law_735 (by omega) (by omega) (by omega) ?_
  refine ev_callv (ci := 9) hC dL_law_736 tX9_drawn.1 kL_96 tX9_drawn.2.1 tX9_drawn.2.2.1 rfl (by first | rfl | assumption) tX9_drawn.2.2.2 ⟨⟨Nat.le_of_ble_eq_true rfl, Nat.le_of_ble_eq_true rfl⟩, Nat.le_of_ble_eq_true rfl, Nat.le_of_ble_eq_true rfl⟩ rfl (Nat.le_of_ble_eq_true rfl) ?_
  rintro r K' M2 P' ⟨rfl, rfl, rfl, n', hS2⟩
  refine ev_same (tgt := 807) dL_law_739 (by decide) ?_
  exact ev_to (hP _ _ hS2) (by repeat (first | exact trivial | refine ⟨rfl, ?_⟩)) rfl rfl rfl rfl
theorem lw_image {N j n : Nat} {xs : Nat → Int32} {M : Mm} (hN : N ≤ 3072) (hi : 6 * j + 6 ≤ N) (hS : SR M n j) (hP : ∀ M' n', SR M' n' (j + 1) → Ev (mL N xs) 807 [some (vX 0), some (vR 0), some (vR 54), some (vI (6 * (j : Int)))] [] KK M' PP 68 79546 lwF) : Ev (mL N xs) 744 [some (vX 0), some (vR 0), some (vR 54), some (vI (6 * (j : Int)))] [] KK M PP 68 79546 lwF := by
  first | refine ev_aload_n dL_law_744 rfl ?_ | refine ev_aloadX_n dL_law_744 rfl ?_
  refine ev_callv (ci := 8) (lc_image hS) dL_law_745 tX8_image.1 kL_97 tX8_image.2.1 tX8_image.2.2.1 rfl (by first | rfl | assumption) tX8_image.2.2.2 ⟨⟨Nat.le_of_ble_eq_true rfl, Nat.le_of_ble_eq_true rfl⟩, Nat.le_of_ble_eq_true rfl, Nat.le_of_ble_eq_true rfl⟩ rfl (Nat.le_of_ble_eq_true rfl) ?_
  rintro r K' M1 P' ⟨rfl, rfl, ⟨z, rfl⟩, hC⟩
  first | refine ev_aload_n dL_law_748 rfl ?_ | refine ev_aloadX_n dL_law_748 rfl ?_
  refine ev_callv (ci := 9) hC dL_law_749 tX9_image.1 kL_100 tX9_image.2.1 tX9_image.2.2.1 rfl (by first | rfl | assumption) tX9_image.2.2.2 ⟨⟨Nat.le_of_ble_eq_true rfl, Nat.le_of_ble_eq_true rfl⟩, Nat.le_of_ble_eq_true rfl, Nat.le_of_ble_eq_true rfl⟩ rfl (Nat.le_of_ble_eq_true rfl) ?_
  rintro r K' M2 P' ⟨rfl, rfl, rfl, n', hS2⟩
  refine ev_same (tgt := 807) dL_law_752 (by decide) ?_
  exact ev_to (hP _ _ hS2) (by repeat (first | exact trivial | refine ⟨rfl, ?_⟩)) rfl rfl rfl rfl
theorem lw_restore {N j n : Nat} {xs : Nat → Int32} {M : Mm} (hN : N ≤ 3072) (hi : 6 * j + 6 ≤ N) (hS : SR M n j) (hP : ∀ M' n', SR M' n' (j + 1) → Ev (mL N xs) 807 [some (vX 0), some (vR 0), some (vR 54), some (vI (6 * (j : Int)))] [] KK M' PP 68 79546 lwF) : Ev (mL N xs) 757 [some (vX 0), some (vR 0), some (vR 54), some (vI (6 * (j : Int)))] [] KK M PP 68 79546 lwF := by
  first | refine ev_aload_n dL_law_757 rfl ?_ | refine ev_aloadX_n dL_law_757 rfl ?_
  refine ev_callv (ci := 8) (lc_restore hS) dL_law_758 tX8_restore.1 kL_101 tX8_restore.2.1 tX8_restore.2.2.1 rfl (by first | rfl | assumption) tX8_restore.2.2.2 ⟨⟨Nat.le_of_ble_eq_true rfl, Nat.le_of_ble_eq_true rfl⟩, Nat.le_of_ble_eq_true rfl, Nat.le_of_ble_eq_true rfl⟩ rfl (Nat.le_of_ble_eq_true rfl) ?_
  rintro r K' M1 P' ⟨rfl, rfl, ⟨z, rfl⟩, hC⟩
  first | refine ev_aload_n dL_law_761 rfl ?_ | refine ev_aloadX_n dL_law_761 rfl ?_
  refine ev_callv (ci := 9) hC dL_law_762 tX9_restore.1 kL_104 tX9_restore.2.1 tX9_restore.2.2.1 rfl (by first | rfl | assumption) tX9_restore.2.2.2 ⟨⟨Nat.le_of_ble_eq_true rfl, Nat.le_of_ble_eq_true rfl⟩, Nat.le_of_ble_eq_true rfl, Nat.le_of_ble_eq_true rfl⟩ rfl (Nat.le_of_ble_eq_true rfl) ?_
  rintro r K' M2 P' ⟨rfl, rfl, rfl, n', hS2⟩
  refine ev_same (tgt := 807) dL_law_765 (by decide) ?_
  exact ev_to (hP _ _ hS2) (by repeat (first | exact trivial | refine ⟨rfl, ?_⟩)) rfl rfl rfl rfl
theorem lw_count {N j n : Nat} {xs : Nat → Int32} {M : Mm} (hN : N ≤ 3072) (hi : 6 * j + 6 ≤ N) (hS : SR M n j) (hP : ∀ M' n', SR M' n' (j + 1) → Ev (mL N xs) 807 [some (vX 0), some (vR 0), some (vR 54), some (vI (6 * (j : Int)))] [] KK M' PP 68 79546 lwF) : Ev (mL N xs) 770 [some (vX 0), some (vR 0), some (vR 54), some (vI (6 * (j : Int)))] [] KK M PP 68 79546 lwF := by
  first | refine ev_aload_n dL_law_770 rfl ?_ | refine ev_aloadX_n dL_law_770 rfl ?_
  first | refine ev_aload_n dL_law_771 rfl ?_ | refine ev_aloadX_n dL_law_771 rfl ?_
  refine ev_iload_n dL_law_772 rfl ?_
  refine ev_iconst dL_law_773 ?_
  refine ev_iadd dL_law_774 ?_
  refine ev_sald (N := N) (xs := xs) (fun _ h => h) dL_law_775 (by omega) (by omega) (by omega) ?_
  refine ev_callv (ci := 8) (lc_count hS (i_rng _)) dL_law_776 tX8_count.1 kL_105 tX8_count.2.1 tX8_count.2.2.1 rfl (by first | rfl | assumption) tX8_count.2.2.2 ⟨⟨Nat.le_of_ble_eq_true rfl, Nat.le_of_ble_eq_true rfl⟩, Nat.le_of_ble_eq_true rfl, Nat.le_of_ble_eq_true rfl⟩ rfl (Nat.le_of_ble_eq_true rfl) ?_
  rintro r K' M1 P' ⟨rfl, rfl, ⟨z, rfl⟩, hC⟩
  first | refine ev_aload_n dL_law_779 rfl ?_ | refine ev_aloadX_n dL_law_779 rfl ?_
  first | refine ev_aload_n dL_law_780 rfl ?_ | refine ev_aloadX_n dL_law_780 rfl ?_
  refine ev_iload_n dL_law_781 rfl ?_
  refine ev_iconst dL_law_782 ?_
  refine ev_iadd dL_law_783 ?_
  refine ev_sald (N := N) (xs := xs) (fun _ h => h) dL_law_784 (by omega) (by omega) (by omega) ?_
  refine ev_callv (ci := 9) hC dL_law_785 tX9_count.1 kL_108 tX9_count.2.1 tX9_count.2.2.1 rfl (by first | rfl | assumption) tX9_count.2.2.2 ⟨⟨Nat.le_of_ble_eq_true rfl, Nat.le_of_ble_eq_true rfl⟩, Nat.le_of_ble_eq_true rfl, Nat.le_of_ble_eq_true rfl⟩ rfl (Nat.le_of_ble_eq_true rfl) ?_
  rintro r K' M2 P' ⟨rfl, rfl, rfl, n', hS2⟩
  refine ev_same (tgt := 807) dL_law_788 (by decide) ?_
  exact ev_to (hP _ _ hS2) (by repeat (first | exact trivial | refine ⟨rfl, ?_⟩)) rfl rfl rfl rfl
theorem lw_digest {N j n : Nat} {xs : Nat → Int32} {M : Mm} (hN : N ≤ 3072) (hi : 6 * j + 6 ≤ N) (hS : SR M n j) (hP : ∀ M' n', SR M' n' (j + 1) → Ev (mL N xs) 807 [some (vX 0), some (vR 0), some (vR 54), some (vI (6 * (j : Int)))] [] KK M' PP 68 79546 lwF) : Ev (mL N xs) 793 [some (vX 0), some (vR 0), some (vR 54), some (vI (6 * (j : Int)))] [] KK M PP 68 79546 lwF := by
  first | refine ev_aload_n dL_law_793 rfl ?_ | refine ev_aloadX_n dL_law_793 rfl ?_
  refine ev_callv (ci := 8) (lc_digest hS) dL_law_794 tX8_digest.1 kL_109 tX8_digest.2.1 tX8_digest.2.2.1 rfl (by first | rfl | assumption) tX8_digest.2.2.2 ⟨⟨Nat.le_of_ble_eq_true rfl, Nat.le_of_ble_eq_true rfl⟩, Nat.le_of_ble_eq_true rfl, Nat.le_of_ble_eq_true rfl⟩ rfl (Nat.le_of_ble_eq_true rfl) ?_
  rintro r K' M1 P' ⟨rfl, rfl, ⟨z, rfl⟩, hC⟩
  first | refine ev_aload_n dL_law_797 rfl ?_ | refine ev_aloadX_n dL_law_797 rfl ?_
  refine ev_callv (ci := 9) hC dL_law_798 tX9_digest.1 kL_113 tX9_digest.2.1 tX9_digest.2.2.1 rfl (by first | rfl | assumption) tX9_digest.2.2.2 ⟨⟨Nat.le_of_ble_eq_true rfl, Nat.le_of_ble_eq_true rfl⟩, Nat.le_of_ble_eq_true rfl, Nat.le_of_ble_eq_true rfl⟩ rfl (Nat.le_of_ble_eq_true rfl) ?_
  rintro r K' M2 P' ⟨rfl, rfl, rfl, n', hS2⟩
  refine ev_lsame dL_law_801 ?_
  refine ev_if_eq (tgt := 807) dL_law_802 (by decide) (by decide) (fun _ => ?_) (fun h => absurd rfl h)
  exact ev_to (hP _ _ hS2) (by repeat (first | exact trivial | refine ⟨rfl, ?_⟩)) rfl rfl rfl rfl
theorem lw_tail {N j : Nat} {xs : Nat → Int32} {M : Mm} (hP : Ev (mL N xs) 18 [some (vX 0), some (vR 0), some (vR 54), some (vI (6 * (j : Int) + 6))] [] KK M PP 68 79546 lwF) : Ev (mL N xs) 807 [some (vX 0), some (vR 0), some (vR 54), some (vI (6 * (j : Int)))] [] KK M PP 68 79546 lwF := by
  refine ev_iinc dL_law_807 rfl (show 3 < 4 by decide) ?_
  refine ev_goto (tgt := 18) dL_law_810 (by decide) ?_
  exact ev_to hP (by repeat (first | exact trivial | refine ⟨rfl, ?_⟩)) rfl rfl rfl rfl
theorem lw_round {N j n : Nat} {xs : Nat → Int32} {M : Mm} (hN : N ≤ 3072) (hi : 6 * j + 6 ≤ N) (hS : SR M n j) (hP : ∀ M' n', SR M' n' (j + 1) → Ev (mL N xs) 807 [some (vX 0), some (vR 0), some (vR 54), some (vI (6 * (j : Int)))] [] KK M' PP 68 79546 lwF) : Ev (mL N xs) 18 [some (vX 0), some (vR 0), some (vR 54), some (vI (6 * (j : Int)))] [] KK M PP 68 79546 lwF := by
  have hsl : Ev (mL N xs) 33 [some (vX 0), some (vR 0), some (vR 54), some (vI (6 * (j : Int)))] [vI (andI (xs (6 * (j : Int)).toNat).toInt 31)] KK M PP 68 79546 lwF := by
    have hw : inR (andI (xs (6 * (j : Int)).toNat).toInt 31) := i_rng _
    generalize andI (xs (6 * (j : Int)).toNat).toInt 31 = w at *
    rcases (by omega : w = 0 ∨ w = 1 ∨ w = 2 ∨ w = 3 ∨ w = 4 ∨ w = 5 ∨ w = 6 ∨ w = 7 ∨ w = 8 ∨ w = 9 ∨ w = 10 ∨ w = 11 ∨ w = 12 ∨ w = 13 ∨ w = 14 ∨ w = 15 ∨ w = 16 ∨ w = 17 ∨ w = 18 ∨ w = 19 ∨ w = 20 ∨ w = 21 ∨ w = 22 ∨ (w < 0 ∨ 22 < w)) with h | h | h | h | h | h | h | h | h | h | h | h | h | h | h | h | h | h | h | h | h | h | h | h
    · exact ev_tableIn (off := 107) (tgt := 140) dL_law_33 (by omega) (by omega) (by omega) (by rw [h]; rfl) (by decide) (lw_letter hN hi hS hP)
    · exact ev_tableIn (off := 130) (tgt := 163) dL_law_33 (by omega) (by omega) (by omega) (by rw [h]; rfl) (by decide) (lw_blank hN hi hS hP)
    · exact ev_tableIn (off := 143) (tgt := 176) dL_law_33 (by omega) (by omega) (by omega) (by rw [h]; rfl) (by decide) (lw_fault hN hi hS hP)
    · exact ev_tableIn (off := 156) (tgt := 189) dL_law_33 (by omega) (by omega) (by omega) (by rw [h]; rfl) (by decide) (lw_program hN hi hS hP)
    · exact ev_tableIn (off := 169) (tgt := 202) dL_law_33 (by omega) (by omega) (by omega) (by rw [h]; rfl) (by decide) (lw_step hN hi hS hP)
    · exact ev_tableIn (off := 202) (tgt := 235) dL_law_33 (by omega) (by omega) (by omega) (by rw [h]; rfl) (by decide) (lw_as hN hi hS hP)
    · exact ev_tableIn (off := 235) (tgt := 268) dL_law_33 (by omega) (by omega) (by omega) (by rw [h]; rfl) (by decide) (lw_bound hN hi hS hP)
    · exact ev_tableIn (off := 278) (tgt := 311) dL_law_33 (by omega) (by omega) (by omega) (by rw [h]; rfl) (by decide) (lw_points hN hi hS hP)
    · exact ev_tableIn (off := 301) (tgt := 334) dL_law_33 (by omega) (by omega) (by omega) (by rw [h]; rfl) (by decide) (lw_has hN hi hS hP)
    · exact ev_tableIn (off := 354) (tgt := 387) dL_law_33 (by omega) (by omega) (by omega) (by rw [h]; rfl) (by decide) (lw_share hN hi hS hP)
    · exact ev_tableIn (off := 378) (tgt := 411) dL_law_33 (by omega) (by omega) (by omega) (by rw [h]; rfl) (by decide) (lw_compare hN hi hS hP)
    · exact ev_tableIn (off := 411) (tgt := 444) dL_law_33 (by omega) (by omega) (by omega) (by rw [h]; rfl) (by decide) (lw_put hN hi hS hP)
    · exact ev_tableIn (off := 474) (tgt := 507) dL_law_33 (by omega) (by omega) (by omega) (by rw [h]; rfl) (by decide) (lw_take hN hi hS hP)
    · exact ev_tableIn (off := 497) (tgt := 530) dL_law_33 (by omega) (by omega) (by omega) (by rw [h]; rfl) (by decide) (lw_by hN hi hS hP)
    · exact ev_tableIn (off := 530) (tgt := 563) dL_law_33 (by omega) (by omega) (by omega) (by rw [h]; rfl) (by decide) (lw_rack hN hi hS hP)
    · exact ev_tableIn (off := 563) (tgt := 596) dL_law_33 (by omega) (by omega) (by omega) (by rw [h]; rfl) (by decide) (lw_racked hN hi hS hP)
    · exact ev_tableIn (off := 596) (tgt := 629) dL_law_33 (by omega) (by omega) (by omega) (by rw [h]; rfl) (by decide) (lw_see hN hi hS hP)
    · exact ev_tableIn (off := 655) (tgt := 688) dL_law_33 (by omega) (by omega) (by omega) (by rw [h]; rfl) (by decide) (lw_forget hN hi hS hP)
    · exact ev_tableIn (off := 668) (tgt := 701) dL_law_33 (by omega) (by omega) (by omega) (by rw [h]; rfl) (by decide) (lw_drawn hN hi hS hP)
    · exact ev_tableIn (off := 711) (tgt := 744) dL_law_33 (by omega) (by omega) (by omega) (by rw [h]; rfl) (by decide) (lw_image hN hi hS hP)
    · exact ev_tableIn (off := 724) (tgt := 757) dL_law_33 (by omega) (by omega) (by omega) (by rw [h]; rfl) (by decide) (lw_restore hN hi hS hP)
    · exact ev_tableIn (off := 737) (tgt := 770) dL_law_33 (by omega) (by omega) (by omega) (by rw [h]; rfl) (by decide) (lw_count hN hi hS hP)
    · exact ev_tableIn (off := 760) (tgt := 793) dL_law_33 (by omega) (by omega) (by omega) (by rw [h]; rfl) (by decide) (lw_digest hN hi hS hP)
    · exact ev_tableOut (tgt := 807) dL_law_33 (by omega) (by omega) (by decide) (hP M n (hS.mono (by omega)))
  refine ev_iload_n dL_law_18 rfl ?_
  first | refine ev_aload_n dL_law_19 rfl ?_ | refine ev_aloadX_n dL_law_19 rfl ?_
  refine ev_slen (N := N) (fun _ h => h.1) dL_law_20 ?_
  refine ev_bipush dL_law_21 ?_
  refine ev_isub dL_law_23 ?_
  refine ev_icmp_gt (tgt := 813) dL_law_24 (by decide) (by omega) (by omega) (fun h => ?_) (fun h => ?_)
  · omega
  first | refine ev_aload_n dL_law_27 rfl ?_ | refine ev_aloadX_n dL_law_27 rfl ?_
  refine ev_iload_n dL_law_28 rfl ?_
  refine ev_sald (N := N) (xs := xs) (fun _ h => h) dL_law_29 (by omega) (by omega) (by omega) ?_
  refine ev_bipush dL_law_30 ?_
  refine ev_iand dL_law_32 ?_
  exact hsl
theorem lw_loop {N : Nat} {xs : Nat → Int32} (hN : N ≤ 3072) {M : Mm} {n : Nat} (hS : SR M n 0) : Ev (mL N xs) 18 [some (vX 0), some (vR 0), some (vR 54), some (vI 0)] [] KK M PP 68 79546 lwF := by
  have lp : ∀ M n, SR M n 0 → Ev (mL N xs) 18 [some (vX 0), some (vR 0), some (vR 54), some (vI (6 * ((0 : Nat) : Int)))] [] KK M PP 68 79546 lwF := by
    refine up_loop (P := fun j => ∀ M n, SR M n j → Ev (mL N xs) 18 [some (vX 0), some (vR 0), some (vR 54), some (vI (6 * (j : Int)))] [] KK M PP 68 79546 lwF) (N / 6) ?_ ?_
    · intro M n hS
      refine ev_iload_n dL_law_18 rfl ?_
      first | refine ev_aload_n dL_law_19 rfl ?_ | refine ev_aloadX_n dL_law_19 rfl ?_
      refine ev_slen (N := N) (fun _ h => h.1) dL_law_20 ?_
      refine ev_bipush dL_law_21 ?_
      refine ev_isub dL_law_23 ?_
      refine ev_icmp_gt (tgt := 813) dL_law_24 (by decide) (by omega) (by omega) (fun h => ?_) (fun h => ?_)
      · refine ev_iconst dL_law_813 ?_
        exact ev_ireturn dL_law_814 (okR_z rfl (Or.inr rfl)) ⟨rfl, Nat.le_of_ble_eq_true rfl, Nat.le_of_ble_eq_true rfl⟩
      · omega
    · intro j hj hP M n hS
      refine lw_round hN (by omega) hS (fun M' n' hS' => lw_tail ?_)
      have e : (6 : Int) * ((j + 1 : Nat) : Int) = 6 * (j : Int) + 6 := by omega
      have := hP M' n' hS'
      rw [e] at this
      exact this
  exact ev_to (lp M n hS) (by repeat (first | exact trivial | refine ⟨rfl, ?_⟩)) rfl rfl rfl rfl
