/-! ===== Run: shapes ahead ===== -/
def aC (k : Nat) : Nat := 23 + 2 * k
theorem sh_aC {k : Nat} (h : k ≤ 6) : isSh (aC k) := by
  have : k = 0 ∨ k = 1 ∨ k = 2 ∨ k = 3 ∨ k = 4 ∨ k = 5 ∨ k = 6 := by omega
  rcases this with rfl | rfl | rfl | rfl | rfl | rfl | rfl <;> exact ⟨rfl, rfl, rfl⟩
theorem pp_aC {k : Nat} (h : k ≤ 6) : PP 15 (k : Int) = some (aC k) := by
  have : k = 0 ∨ k = 1 ∨ k = 2 ∨ k = 3 ∨ k = 4 ∨ k = 5 ∨ k = 6 := by omega
  rcases this with rfl | rfl | rfl | rfl | rfl | rfl | rfl <;> rfl
theorem sh_17 : isSh 17 := ⟨rfl, rfl, rfl⟩
theorem sh_19 : isSh 19 := ⟨rfl, rfl, rfl⟩
theorem sh_21 : isSh 21 := ⟨rfl, rfl, rfl⟩
theorem sh_52 : isSh 52 := ⟨rfl, rfl, rfl⟩
/-- only the Shape at c is another -/
def Fr2 (M M' : Mm) (c : Nat) : Prop := ∀ q, q ≠ c → q ≠ c + 1 → M' q = M q
theorem fr2_rw {M : Mm} {c : Nat} {f h : Int → Int} : Fr2 M (rwc (rwc M c f) (c + 1) h) c := fun q h1 h2 => by rw [rwc_ne h2, rwc_ne h1]
theorem fr2_r1 {M : Mm} {c : Nat} {h : Int → Int} : Fr2 M (rwc M (c + 1) h) c := fun q h1 h2 => by rw [rwc_ne h2]
theorem Fr2.tr {M M' M'' : Mm} {c : Nat} (h : Fr2 M M' c) (h' : Fr2 M' M'' c) : Fr2 M M'' c := fun q h1 h2 => (h' q h1 h2).trans (h q h1 h2)
theorem fr2_rf {M : Mm} {c : Nat} : Fr2 M M c := fun _ _ _ => rfl
theorem fr2_cp {M : Mm} {c c2 : Nat} : Fr2 M (cpM M c c2) c := fr2_rw
theorem fr2_cl {M : Mm} {c : Nat} : Fr2 M (clM M c) c := by unfold clM; split; exact fr2_rw; exact fr2_rf
theorem fr2_jn {M : Mm} {c c2 : Nat} : Fr2 M (jnM M c c2) c := by
  unfold jnM
  split
  · exact fr2_rf
  · split
    · exact fr2_cp
    · exact fr2_r1
theorem fr2_wd {M : Mm} {c c2 : Nat} : Fr2 M (wdM M c c2) c := by
  unfold wdM
  split
  · exact fr2_cp
  · exact fr2_r1
theorem Rp_cg {M M' : Mm} {c c' : Nat} {S : PS} (h : Rp M c S) (h1 : M' c' 1 = M c 1) (h2 : ∀ j, 0 ≤ j → j < 36 → M' (c' + 1) j = M (c + 1) j) : Rp M' c' S := by
  have hm : ∀ a b, lit a → lit b → mt (M' (c' + 1)) a b = mt (M (c + 1)) a b := fun a b ha hb => h2 (a * 6 + b) (by omega) (by omega)
  obtain ⟨b, h⟩ := h
  refine ⟨fun j q1 q2 => by rw [h2 j q1 q2]; exact b j q1 q2, ?_⟩
  rw [h1]
  rcases h with h | ⟨q1, ⟨t1, t2, t3, t4, t5⟩, q3, q4⟩
  · exact Or.inl h
  · refine Or.inr ⟨q1, ⟨fun a b ha hb => ?_, fun a b c ha hb hc => ?_, fun a ha => ?_, fun a ha => ?_, fun a b ha hb => ?_⟩, fun a ha => ?_, fun p => ?_⟩
    · rw [hm a b ha hb, hm b a hb ha]; exact t1 a b ha hb
    · rw [hm a b ha hb, hm a c ha hc, hm _ b (nx_lit hc) hb]; exact t2 a b c ha hb hc
    · rw [hm a _ ha (nx_lit ha)]; exact t3 a ha
    · rw [hm a a ha ha]; exact t4 a ha
    · rw [hm a b ha hb, hm a a ha ha, hm b b hb hb]; exact t5 a b ha hb
    · rw [hm a a ha ha]; exact q3 a ha
    · rw [q4 p]
      constructor
      · rintro ⟨y1, y2⟩; exact ⟨y1, fun a b ha hb => by rw [hm a b ha hb]; exact y2 a b ha hb⟩
      · rintro ⟨y1, y2⟩; exact ⟨y1, fun a b ha hb => by rw [← hm a b ha hb]; exact y2 a b ha hb⟩
theorem Rp_fr {M M' : Mm} {c c' : Nat} {S : PS} (h : Rp M c S) (hf : Fr2 M M' c') (h1 : c ≠ c') (h2 : c ≠ c' + 1) (h3 : c + 1 ≠ c') : Rp M' c S := Rp_cg h (by rw [hf c h1 h2]) (fun j _ _ => by rw [hf (c + 1) h3 (by omega)])
theorem Rp_cp {M : Mm} {c c2 : Nat} {S : PS} (h : Rp M c2 S) : Rp (cpM M c c2) c S := by
  refine Rp_cg h ?_ (fun j q1 q2 => ?_)
  · unfold cpM; rw [rwc_ne (by omega), rwc_at, up1_s]
  · unfold cpM; rw [rwc_at]; unfold cpS; rw [if_pos (by omega)]
theorem c_begin (M : Mm) : Cm mX4_begin [vR 14] M (fun r M' => r = none ∧ M' = rwc (rwc (rwc (rwc M 14 (up1 (M 14) 5 0)) 16 (fillS (-1) (M 16) 7)) 23 (up1 (M 23) 1 0)) 24 (fillF (M 24))) := by
  refine cm_of (by decide +kernel) (fun _ => trivial) (Nat.le_of_ble_eq_true rfl) ?_
  first | refine ev_aload_n dX4_begin_0 rfl ?_ | refine ev_aloadX_n dX4_begin_0 rfl ?_
  refine ev_iconst dX4_begin_1 ?_
  refine ev_pI 5 dX4_begin_2 sX4_32 rfl (by first | rfl | assumption) rfl ?_
  first | refine ev_aload_n dX4_begin_5 rfl ?_ | refine ev_aloadX_n dX4_begin_5 rfl ?_
  refine ev_getR dX4_begin_6 fX4_17 rfl (by first | rfl | assumption) (by first | rfl | assumption) ?_
  refine ev_iconst dX4_begin_9 ?_
  refine ev_calls (c_afill (c := 16) (N := 7) rfl (by decide) _) dX4_begin_10 tJ7_fill_53178.1 kX4_36 tJ7_fill_53178.2.1 tJ7_fill_53178.2.2 ⟨⟨Nat.le_of_ble_eq_true rfl, Nat.le_of_ble_eq_true rfl⟩, Nat.le_of_ble_eq_true rfl, Nat.le_of_ble_eq_true rfl⟩ rfl (Nat.le_of_ble_eq_true rfl) ?_
  rintro r K' M' P' ⟨rfl, rfl, rfl, hM'⟩
  rw [hM']
  clear hM' M'
  rw [upM_rw, rwc_ne (show (16 : Nat) ≠ 14 by decide)]
  first | refine ev_aload_n dX4_begin_13 rfl ?_ | refine ev_aloadX_n dX4_begin_13 rfl ?_
  refine ev_getR dX4_begin_14 fX4_11 rfl (by first | rfl | assumption) (by first | rfl | assumption) ?_
  refine ev_iconst dX4_begin_17 ?_
  refine ev_aaload dX4_begin_18 (by first | rfl | assumption) (by omega) (by omega) (by decide) (by first | rfl | assumption) ?_
  refine ev_callv (ci := 6) (c_fill (c := 23) (sh_aC (k := 0) (by omega)) _) dX4_begin_19 tX6_fill.1 kX4_42 tX6_fill.2.1 tX6_fill.2.2.1 rfl (by first | rfl | assumption) tX6_fill.2.2.2 ⟨⟨Nat.le_of_ble_eq_true rfl, Nat.le_of_ble_eq_true rfl⟩, Nat.le_of_ble_eq_true rfl, Nat.le_of_ble_eq_true rfl⟩ rfl (Nat.le_of_ble_eq_true rfl) ?_
  rintro r K' M' P' ⟨rfl, rfl, rfl, hM'⟩
  rw [hM']
  clear hM' M'
  refine ev_return dX4_begin_22 rfl (rz ⟨rfl, ?_⟩)
  rw [rwc_ne (show (23 : Nat) ≠ 16 by decide), rwc_ne (show (23 : Nat) ≠ 14 by decide), rwc_ne (show (24 : Nat) ≠ 16 by decide), rwc_ne (show (24 : Nat) ≠ 14 by decide)]
/-- no step does anything to no points -/
theorem stepS_0 {kd a b z : Int} {S : PS} (h : ∀ p, ¬ S p) : ∀ q, ¬ stepS kd a b z S q := by
  intro q hq
  unfold stepS at hq
  split at hq
  · exact h _ hq.1
  · split at hq
    · obtain ⟨p, v, h1, -⟩ := hq; exact h _ h1
    · obtain ⟨p, h1, -⟩ := hq; exact h _ h1
theorem c_doStep {k : Nat} (hk : k < 6) (M : Mm) {S : PS} (hR : Rp M (aC k) S) (hst : stOK (M 10 k) (M 11 k) (M 12 k) (M 13 k)) : Cm mX4_doStep [vR 14, vR 9, vI (k : Int)] M (fun r M' => r = none ∧ Rp M' (aC (k + 1)) (stepS (M 10 k) (M 11 k) (M 12 k) (M 13 k) S) ∧ Fr2 M M' (aC (k + 1))) := by
  have s0 := sh_aC (k := k) (by omega)
  have s1 := sh_aC (k := k + 1) (by omega)
  have p0 := pp_aC (k := k) (by omega)
  have p1 : PP 15 ((k : Int) + 1) = some (aC (k + 1)) := pp_aC (k := k + 1) (by omega)
  have kn : aC (k + 1) ≠ aC k := by unfold aC; omega
  have e01 := hR.e01
  have hge : 25 ≤ aC (k + 1) := by unfold aC; omega
  obtain ⟨t1, t2, t3⟩ := id s1
  have hkd : inR (M 10 k) := by rcases hst with h | h | h | h <;> (have := h.1; omega)
  refine cm_of (by decide +kernel) (fun _ => trivial) (Nat.le_of_ble_eq_true rfl) ?_
  first | refine ev_aload_n dX4_doStep_0 rfl ?_ | refine ev_aloadX_n dX4_doStep_0 rfl ?_
  refine ev_getR dX4_doStep_1 fX4_11 rfl (by first | rfl | assumption) (by first | rfl | assumption) ?_
  refine ev_iload_n dX4_doStep_4 rfl ?_
  refine ev_iconst dX4_doStep_5 ?_
  refine ev_iadd dX4_doStep_6 ?_
  refine ev_aaload dX4_doStep_7 (by first | rfl | assumption) (by omega) (by omega) (by decide) (by first | rfl | assumption) ?_
  refine ev_astore_n dX4_doStep_8 (by decide) ?_
  first | refine ev_aload_n dX4_doStep_9 rfl ?_ | refine ev_aloadX_n dX4_doStep_9 rfl ?_
  first | refine ev_aload_n dX4_doStep_10 rfl ?_ | refine ev_aloadX_n dX4_doStep_10 rfl ?_
  refine ev_getR dX4_doStep_11 fX4_11 rfl (by first | rfl | assumption) (by first | rfl | assumption) ?_
  refine ev_iload_n dX4_doStep_14 rfl ?_
  refine ev_aaload dX4_doStep_15 (by first | rfl | assumption) (by omega) (by omega) (by decide) (by first | rfl | assumption) ?_
  refine ev_callv (ci := 6) (c_copy s1 s0 kn M e01) dX4_doStep_16 tX6_copy.1 kX4_44 tX6_copy.2.1 tX6_copy.2.2.1 rfl (by first | rfl | assumption) tX6_copy.2.2.2 ⟨⟨Nat.le_of_ble_eq_true rfl, Nat.le_of_ble_eq_true rfl⟩, Nat.le_of_ble_eq_true rfl, Nat.le_of_ble_eq_true rfl⟩ rfl (Nat.le_of_ble_eq_true rfl) ?_
  rintro r K' M' P' ⟨rfl, rfl, rfl, hM'⟩
  rw [hM']
  clear hM' M'
  have hM1 := Rp_cp (c := aC (k + 1)) hR
  have hF1 : Fr2 M (cpM M (aC (k + 1)) (aC k)) (aC (k + 1)) := fr2_cp
  have eE : cpM M (aC (k + 1)) (aC k) (aC (k + 1)) 1 = M (aC k) 1 := by unfold cpM; rw [rwc_ne (by omega), rwc_at, up1_s]
  have r10 : cpM M (aC (k + 1)) (aC k) 10 = M 10 := hF1 10 (by omega) (by omega)
  have r11 : cpM M (aC (k + 1)) (aC k) 11 = M 11 := hF1 11 (by omega) (by omega)
  have r12 : cpM M (aC (k + 1)) (aC k) 12 = M 12 := hF1 12 (by omega) (by omega)
  have r13 : cpM M (aC (k + 1)) (aC k) 13 = M 13 := hF1 13 (by omega) (by omega)
  show Ev mX4_doStep _ _ _ KK (cpM M (aC (k + 1)) (aC k)) PP _ _ _
  generalize cpM M (aC (k + 1)) (aC k) = M1 at *
  first | refine ev_aload_n dX4_doStep_19 rfl ?_ | refine ev_aloadX_n dX4_doStep_19 rfl ?_
  refine ev_gI 1 dX4_doStep_20 fX4_48 rfl (by first | rfl | assumption) rfl ?_
  refine ev_if_eq (tgt := 27) dX4_doStep_23 (by decide) (by omega) (fun h0 => ?_) (fun h0 => ?_)
  · -- not empty
    have hb := hM1.bd h0
    obtain ⟨-, hq⟩ := hM1
    rcases hq with hq | ⟨-, hT, hD, hSS⟩
    · omega
    obtain ⟨hO, hB⟩ := op_ok hT hD hst hSS
    have fin : ∀ g : Int → Int, opF (M 10 k) (M 11 k) (M 12 k) (M 13 k) (M1 (aC (k + 1) + 1)) = g → Ev mX4_doStep 142 [some (vR 14), some (vR 9), some (vI (k : Int)), some (vR (aC (k + 1))), none] [] KK (rwc M1 (aC (k + 1) + 1) g) PP 0 0 (Rz mX4_doStep (fun r M' => r = none ∧ Rp M' (aC (k + 1)) (stepS (M 10 k) (M 11 k) (M 12 k) (M 13 k) S) ∧ Fr2 M M' (aC (k + 1)))) := by
      intro g hg
      have z0 : rwc M1 (aC (k + 1) + 1) g (aC (k + 1)) 1 = 0 := by rw [rwc_ne (by omega)]; exact h0
      have zr : rwc M1 (aC (k + 1) + 1) g (aC (k + 1) + 1) = g := rwc_at _ _ _
      rw [hg] at hO hB
      first | refine ev_aload_n dX4_doStep_142 rfl ?_ | refine ev_aloadX_n dX4_doStep_142 rfl ?_
      refine ev_callv (ci := 6) (c_close s1 _ (by rw [zr]; exact hO.2.2.2) (Or.inl z0)) dX4_doStep_143 tX6_close.1 kX4_77 tX6_close.2.1 tX6_close.2.2.1 rfl (by first | rfl | assumption) tX6_close.2.2.2 ⟨⟨Nat.le_of_ble_eq_true rfl, Nat.le_of_ble_eq_true rfl⟩, Nat.le_of_ble_eq_true rfl, Nat.le_of_ble_eq_true rfl⟩ rfl (Nat.le_of_ble_eq_true rfl) ?_
      rintro r K' M' P' ⟨rfl, rfl, rfl, hM'⟩
      rw [hM']
      clear hM' M'
      refine ev_return dX4_doStep_146 rfl (rz ⟨rfl, ?_, ?_⟩)
      · have := close_Rp z0 (by rw [zr]; exact hO.1) (by rw [zr]; exact hO.2.1) (by rw [zr]; exact hO.2.2.1) (by rw [zr]; exact hO.2.2.2)
        rw [zr] at this
        have e : byB g = stepS (M 10 k) (M 11 k) (M 12 k) (M 13 k) S := funext fun q => propext (hB q)
        rw [e] at this
        exact this
      · exact (hF1.tr fr2_r1).tr fr2_cl
    first | refine ev_aload_n dX4_doStep_27 rfl ?_ | refine ev_aloadX_n dX4_doStep_27 rfl ?_
    refine ev_getR dX4_doStep_28 fX4_52 rfl (by first | rfl | assumption) (by first | rfl | assumption) ?_
    refine ev_iload_n dX4_doStep_31 rfl ?_
    refine ev_iaload dX4_doStep_32 (by first | rfl | assumption) (by omega) (by omega) (by decide) ?_
    refine ev_istore dX4_doStep_33 (by decide) ?_
    first | refine ev_aload_n dX4_doStep_35 rfl ?_ | refine ev_aloadX_n dX4_doStep_35 rfl ?_
    refine ev_getR dX4_doStep_36 fX4_57 rfl (by first | rfl | assumption) (by first | rfl | assumption) ?_
    refine ev_iload_n dX4_doStep_39 rfl ?_
    refine ev_iaload dX4_doStep_40 (by first | rfl | assumption) (by omega) (by omega) (by decide) ?_
    rw [r11, r10]
    rcases hst with ⟨d0, d1, d2, d3, d4⟩ | ⟨d0, d1, d2, d3, d4⟩ | ⟨d0, d1⟩ | ⟨d0, d1, d3, d4⟩
    · refine ev_tableIn (off := 31) (tgt := 72) dX4_doStep_41 hkd (by omega) (by omega) (by rw [d0]; rfl) (by decide) ?_
      first | refine ev_aload_n dX4_doStep_72 rfl ?_ | refine ev_aloadX_n dX4_doStep_72 rfl ?_
      refine ev_iload dX4_doStep_73 rfl ?_
      first | refine ev_aload_n dX4_doStep_75 rfl ?_ | refine ev_aloadX_n dX4_doStep_75 rfl ?_
      refine ev_getR dX4_doStep_76 fX4_60 rfl (by first | rfl | assumption) (by first | rfl | assumption) ?_
      refine ev_iload_n dX4_doStep_79 rfl ?_
      refine ev_iaload dX4_doStep_80 (by first | rfl | assumption) (by omega) (by omega) (by decide) ?_
      first | refine ev_aload_n dX4_doStep_81 rfl ?_ | refine ev_aloadX_n dX4_doStep_81 rfl ?_
      refine ev_getR dX4_doStep_82 fX4_63 rfl (by first | rfl | assumption) (by first | rfl | assumption) ?_
      refine ev_iload_n dX4_doStep_85 rfl ?_
      refine ev_iaload dX4_doStep_86 (by first | rfl | assumption) (by omega) (by omega) (by decide) ?_
      rw [r12, r13]
      have bb := hb (M 11 k * 6 + M 12 k) (by omega) (by omega)
      refine ev_callv (ci := 6) (c_limit s1 d1.1 d1.2 d2.1 d2.2 (by omega) _ (by omega)) dX4_doStep_87 tX6_limit.1 kX4_66 tX6_limit.2.1 tX6_limit.2.2.1 rfl (by first | rfl | assumption) tX6_limit.2.2.2 ⟨⟨Nat.le_of_ble_eq_true rfl, Nat.le_of_ble_eq_true rfl⟩, Nat.le_of_ble_eq_true rfl, Nat.le_of_ble_eq_true rfl⟩ rfl (Nat.le_of_ble_eq_true rfl) ?_
      rintro r K' M' P' ⟨rfl, rfl, rfl, hM'⟩
      rw [hM']
      clear hM' M'
      refine ev_goto (tgt := 142) dX4_doStep_90 (by decide) ?_
      exact ev_to (fin _ (by unfold opF; rw [if_pos d0])) ⟨rfl, rfl, rfl, rfl, trivial⟩ rfl rfl rfl rfl
    · refine ev_tableIn (off := 52) (tgt := 93) dX4_doStep_41 hkd (by omega) (by omega) (by rw [d0]; rfl) (by decide) ?_
      first | refine ev_aload_n dX4_doStep_93 rfl ?_ | refine ev_aloadX_n dX4_doStep_93 rfl ?_
      refine ev_iload dX4_doStep_94 rfl ?_
      first | refine ev_aload_n dX4_doStep_96 rfl ?_ | refine ev_aloadX_n dX4_doStep_96 rfl ?_
      refine ev_getR dX4_doStep_97 fX4_60 rfl (by first | rfl | assumption) (by first | rfl | assumption) ?_
      refine ev_iload_n dX4_doStep_100 rfl ?_
      refine ev_iaload dX4_doStep_101 (by first | rfl | assumption) (by omega) (by omega) (by decide) ?_
      first | refine ev_aload_n dX4_doStep_102 rfl ?_ | refine ev_aloadX_n dX4_doStep_102 rfl ?_
      refine ev_getR dX4_doStep_103 fX4_63 rfl (by first | rfl | assumption) (by first | rfl | assumption) ?_
      refine ev_iload_n dX4_doStep_106 rfl ?_
      refine ev_iaload dX4_doStep_107 (by first | rfl | assumption) (by omega) (by omega) (by decide) ?_
      rw [r12, r13]
      refine ev_callv (ci := 6) (c_assign s1 d1.1 d1.2 d2.1 d2.2 d3 d4 _ (bdd_mono hb (by omega))) dX4_doStep_108 tX6_assign.1 kX4_70 tX6_assign.2.1 tX6_assign.2.2.1 rfl (by first | rfl | assumption) tX6_assign.2.2.2 ⟨⟨Nat.le_of_ble_eq_true rfl, Nat.le_of_ble_eq_true rfl⟩, Nat.le_of_ble_eq_true rfl, Nat.le_of_ble_eq_true rfl⟩ rfl (Nat.le_of_ble_eq_true rfl) ?_
      rintro r K' M' P' ⟨rfl, rfl, rfl, hM'⟩
      rw [hM']
      clear hM' M'
      refine ev_goto (tgt := 142) dX4_doStep_111 (by decide) ?_
      exact ev_to (fin _ (by unfold opF; rw [if_neg (by omega), if_pos d0])) ⟨rfl, rfl, rfl, rfl, trivial⟩ rfl rfl rfl rfl
    · refine ev_tableIn (off := 73) (tgt := 114) dX4_doStep_41 hkd (by omega) (by omega) (by rw [d0]; rfl) (by decide) ?_
      first | refine ev_aload_n dX4_doStep_114 rfl ?_ | refine ev_aloadX_n dX4_doStep_114 rfl ?_
      refine ev_iload dX4_doStep_115 rfl ?_
      refine ev_callv (ci := 6) (c_lose s1 d1.1 d1.2 _) dX4_doStep_117 tX6_lose.1 kX4_73 tX6_lose.2.1 tX6_lose.2.2.1 rfl (by first | rfl | assumption) tX6_lose.2.2.2 ⟨⟨Nat.le_of_ble_eq_true rfl, Nat.le_of_ble_eq_true rfl⟩, Nat.le_of_ble_eq_true rfl, Nat.le_of_ble_eq_true rfl⟩ rfl (Nat.le_of_ble_eq_true rfl) ?_
      rintro r K' M' P' ⟨rfl, rfl, rfl, hM'⟩
      rw [hM']
      clear hM' M'
      refine ev_goto (tgt := 142) dX4_doStep_120 (by decide) ?_
      exact ev_to (fin _ (by unfold opF; rw [if_neg (by omega), if_neg (by omega), if_pos d0])) ⟨rfl, rfl, rfl, rfl, trivial⟩ rfl rfl rfl rfl
    · refine ev_tableIn (off := 82) (tgt := 123) dX4_doStep_41 hkd (by omega) (by omega) (by rw [d0]; rfl) (by decide) ?_
      first | refine ev_aload_n dX4_doStep_123 rfl ?_ | refine ev_aloadX_n dX4_doStep_123 rfl ?_
      refine ev_iload dX4_doStep_124 rfl ?_
      refine ev_iconst dX4_doStep_126 ?_
      refine ev_iload dX4_doStep_127 rfl ?_
      refine ev_imul dX4_doStep_129 ?_
      first | refine ev_aload_n dX4_doStep_130 rfl ?_ | refine ev_aloadX_n dX4_doStep_130 rfl ?_
      refine ev_getR dX4_doStep_131 fX4_63 rfl (by first | rfl | assumption) (by first | rfl | assumption) ?_
      refine ev_iload_n dX4_doStep_134 rfl ?_
      refine ev_iaload dX4_doStep_135 (by first | rfl | assumption) (by omega) (by omega) (by decide) ?_
      rw [r13]
      refine ev_callv (ci := 6) (c_assign s1 d1.1 d1.2 (by omega) (by omega) d3 d4 _ (bdd_mono hb (by omega))) dX4_doStep_136 tX6_assign.1 kX4_70 tX6_assign.2.1 tX6_assign.2.2.1 rfl (by first | rfl | assumption) tX6_assign.2.2.2 ⟨⟨Nat.le_of_ble_eq_true rfl, Nat.le_of_ble_eq_true rfl⟩, Nat.le_of_ble_eq_true rfl, Nat.le_of_ble_eq_true rfl⟩ rfl (Nat.le_of_ble_eq_true rfl) ?_
      rintro r K' M' P' ⟨rfl, rfl, rfl, hM'⟩
      rw [hM']
      clear hM' M'
      refine ev_goto (tgt := 142) dX4_doStep_139 (by decide) ?_
      exact ev_to (fin _ (by unfold opF; rw [if_neg (by omega), if_neg (by omega), if_neg (by omega)])) ⟨rfl, rfl, rfl, rfl, trivial⟩ rfl rfl rfl rfl
  · refine ev_return dX4_doStep_26 rfl (rz ⟨rfl, ?_, hF1⟩)
    obtain ⟨hb, hq⟩ := hM1
    rcases hq with hq | hq
    · exact ⟨hb, Or.inl ⟨hq.1, stepS_0 hq.2⟩⟩
    · exact absurd hq.1 h0
