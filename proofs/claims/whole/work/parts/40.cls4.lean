/-! ===== SumBounds: count, step, and what changes steps ===== -/
noncomputable def cntV (M : Mm) (n : Nat) (A : Nat → PS) (x : Int) : Int := if x = 0 then (n : Int) else if x = 1 then nlp (M 10) n else if x = 2 then M 14 5 else if x = 3 then sumS (deadV A) n else if x = 4 then sumS (idleV (M 10) A) n else if x = 5 then (if n = 0 then 0 else crd (A n)) else if x = 6 then sumS (M 39) 5 else if x = 7 then M 40 2 else if x = 8 then M 1 1 else if x = 9 then M 0 11 else -102
/-- counted places may be written, nothing else -/
def Pc (M M' : Mm) (n : Nat) : Prop := (∀ q, q ≠ 16 → M' q = M q) ∧ (0 < n → ∀ j : Nat, j ≤ n → M' 16 j = -1 ∨ M' 16 j = cntF M (aC j))
theorem Pc.rf {M : Mm} {n : Nat} (hC : CI M n) : Pc M M n := ⟨fun _ _ => rfl, hC.ct⟩
theorem Pc.ci {M M' : Mm} {n : Nat} (h : Pc M M' n) (hC : CI M n) : CI M' n := hC.fr (fun q _ h' => h.1 q h') h.2
theorem Pc.cn {M M' : Mm} {n : Nat} (h : Pc M M' n) (j : Nat) : cntF M' (aC j) = cntF M (aC j) := by unfold cntF; rw [h.1 _ (by unfold aC; omega), h.1 _ (by unfold aC; omega)]
theorem Pc.rp {M M' : Mm} {n : Nat} (h : Pc M M' n) {j : Nat} {S : PS} (hR : Rp M (aC j) S) : Rp M' (aC j) S := Rp_cg hR (by rw [h.1 _ (by unfold aC; omega)]) (fun i _ _ => by rw [h.1 _ (by unfold aC; omega)])
theorem Pc.tr {M M1 M2 : Mm} {n : Nat} (h : Pc M M1 n) (h' : Pc M1 M2 n) : Pc M M2 n := ⟨fun q hq => (h'.1 q hq).trans (h.1 q hq), fun hn j hj => by have := h'.2 hn j hj; rw [h.cn] at this; exact this⟩
theorem Pc.pt {M : Mm} {n k : Nat} (hC : CI M n) : Pc M (rwc M 16 (up1 (M 16) k (cntF M (aC k)))) n := by
  refine ⟨fun q h => rwc_ne h, ?_⟩
  intro hn j hj
  rw [rwc_at]
  by_cases h : (j : Int) = k
  · have : j = k := by omega
    subst this
    rw [up1_s]
    exact Or.inr rfl
  · rw [up1_n h]
    exact hC.ct hn j hj
theorem c_count {n : Nat} {x : Int} (hx : inR x) (M : Mm) (hC : CI M n) {A : Nat → PS} (hA : 0 < n → ∀ q, q ≤ n → Rp M (aC q) (A q)) : Cm mX8_count [vR 0, vI x] M (fun r M' => r = some (vI (cntV M n A x)) ∧ Pc M M' n) := by
  have hs := hC.sz
  have h6 := hC.n6
  have hrf := Pc.rf hC
  have hb : ∀ j, 0 ≤ j → j < 6 → inR (M (9 + 1) j) := fun j h1 h2 => by have := (hC.b9 j h1 h2).1; omega
  refine cm_of (by decide +kernel) (fun _ => trivial) (Nat.le_of_ble_eq_true rfl) ?_
  refine ev_iload_n dX8_count_0 rfl ?_
  rcases (by omega : x = 0 ∨ x = 1 ∨ x = 2 ∨ x = 3 ∨ x = 4 ∨ x = 5 ∨ x = 6 ∨ x = 7 ∨ x = 8 ∨ x = 9 ∨ (x < 0 ∨ 9 < x)) with h1 | h1 | h1 | h1 | h1 | h1 | h1 | h1 | h1 | h1 | h1
  · refine ev_tableIn (off := 55) (tgt := 56) dX8_count_1 (by omega) (by omega) (by omega) (by rw [h1]; rfl) (by decide) ?_
    first | refine ev_aload_n dX8_count_56 rfl ?_ | refine ev_aloadX_n dX8_count_56 rfl ?_
    refine ev_getR dX8_count_57 fX8_26 rfl (by first | rfl | assumption) (by first | rfl | assumption) ?_
    refine ev_gI 4 dX8_count_60 fX8_105 rfl (by first | rfl | assumption) rfl ?_
    rw [hs]
    exact ev_ireturn dX8_count_63 ⟨_, rfl, rfl⟩ (rz ⟨by rw [h1]; unfold cntV; rw [if_pos rfl], hrf⟩)
  · refine ev_tableIn (off := 63) (tgt := 64) dX8_count_1 (by omega) (by omega) (by omega) (by rw [h1]; rfl) (by decide) ?_
    first | refine ev_aload_n dX8_count_64 rfl ?_ | refine ev_aloadX_n dX8_count_64 rfl ?_
    refine ev_getR dX8_count_65 fX8_26 rfl (by first | rfl | assumption) (by first | rfl | assumption) ?_
    refine ev_callv (ci := 7) (c_countLoops isSt9 M hs h6 hb) dX8_count_68 tX7_countLoops.1 kX8_241 tX7_countLoops.2.1 tX7_countLoops.2.2.1 rfl (by first | rfl | assumption) tX7_countLoops.2.2.2 ⟨⟨Nat.le_of_ble_eq_true rfl, Nat.le_of_ble_eq_true rfl⟩, Nat.le_of_ble_eq_true rfl, Nat.le_of_ble_eq_true rfl⟩ rfl (Nat.le_of_ble_eq_true rfl) ?_
    rintro r K' M' P' ⟨rfl, rfl, rfl, hM'⟩
    rw [hM']
    clear hM' M'
    exact ev_ireturn dX8_count_71 ⟨_, rfl, rfl⟩ (rz ⟨by rw [h1]; unfold cntV; rw [if_neg (by decide), if_pos rfl], hrf⟩)
  · refine ev_tableIn (off := 71) (tgt := 72) dX8_count_1 (by omega) (by omega) (by omega) (by rw [h1]; rfl) (by decide) ?_
    first | refine ev_aload_n dX8_count_72 rfl ?_ | refine ev_aloadX_n dX8_count_72 rfl ?_
    refine ev_getR dX8_count_73 fX8_33 rfl (by first | rfl | assumption) (by first | rfl | assumption) ?_
    refine ev_gI 5 dX8_count_76 fX8_244 rfl (by first | rfl | assumption) rfl ?_
    exact ev_ireturn dX8_count_79 ⟨_, rfl, rfl⟩ (rz ⟨by rw [h1]; unfold cntV; rw [if_neg (by decide), if_neg (by decide), if_pos rfl], hrf⟩)
  · refine ev_tableIn (off := 79) (tgt := 80) dX8_count_1 (by omega) (by omega) (by omega) (by rw [h1]; rfl) (by decide) ?_
    first | refine ev_aload_n dX8_count_80 rfl ?_ | refine ev_aloadX_n dX8_count_80 rfl ?_
    refine ev_callv (ci := 8) (c_countDead M hC hA) dX8_count_81 tX8_countDead.1 kX8_247 tX8_countDead.2.1 tX8_countDead.2.2.1 rfl (by first | rfl | assumption) tX8_countDead.2.2.2 ⟨⟨Nat.le_of_ble_eq_true rfl, Nat.le_of_ble_eq_true rfl⟩, Nat.le_of_ble_eq_true rfl, Nat.le_of_ble_eq_true rfl⟩ rfl (Nat.le_of_ble_eq_true rfl) ?_
    rintro r K' M' P' ⟨rfl, rfl, rfl, hM'⟩
    rw [hM']
    clear hM' M'
    exact ev_ireturn dX8_count_84 ⟨_, rfl, rfl⟩ (rz ⟨by rw [h1]; unfold cntV; rw [if_neg (by decide), if_neg (by decide), if_neg (by decide), if_pos rfl], hrf⟩)
  · refine ev_tableIn (off := 84) (tgt := 85) dX8_count_1 (by omega) (by omega) (by omega) (by rw [h1]; rfl) (by decide) ?_
    first | refine ev_aload_n dX8_count_85 rfl ?_ | refine ev_aloadX_n dX8_count_85 rfl ?_
    refine ev_callv (ci := 8) (c_countIdle M hC hA) dX8_count_86 tX8_countIdle.1 kX8_250 tX8_countIdle.2.1 tX8_countIdle.2.2.1 rfl (by first | rfl | assumption) tX8_countIdle.2.2.2 ⟨⟨Nat.le_of_ble_eq_true rfl, Nat.le_of_ble_eq_true rfl⟩, Nat.le_of_ble_eq_true rfl, Nat.le_of_ble_eq_true rfl⟩ rfl (Nat.le_of_ble_eq_true rfl) ?_
    rintro r K' M' P' ⟨rfl, rfl, rfl, hM'⟩
    rw [hM']
    clear hM' M'
    exact ev_ireturn dX8_count_89 ⟨_, rfl, rfl⟩ (rz ⟨by rw [h1]; unfold cntV; rw [if_neg (by decide), if_neg (by decide), if_neg (by decide), if_neg (by decide), if_pos rfl], hrf⟩)
  · refine ev_tableIn (off := 89) (tgt := 90) dX8_count_1 (by omega) (by omega) (by omega) (by rw [h1]; rfl) (by decide) ?_
    first | refine ev_aload_n dX8_count_90 rfl ?_ | refine ev_aloadX_n dX8_count_90 rfl ?_
    refine ev_getR dX8_count_91 fX8_26 rfl (by first | rfl | assumption) (by first | rfl | assumption) ?_
    refine ev_gI 4 dX8_count_94 fX8_105 rfl (by first | rfl | assumption) rfl ?_
    refine ev_if_ne (tgt := 104) dX8_count_97 (by decide) (by omega) (fun hb97 => ?_) (fun hb97 => ?_)
    · first | refine ev_aload_n dX8_count_104 rfl ?_ | refine ev_aloadX_n dX8_count_104 rfl ?_
      refine ev_getR dX8_count_105 fX8_33 rfl (by first | rfl | assumption) (by first | rfl | assumption) ?_
      first | refine ev_aload_n dX8_count_108 rfl ?_ | refine ev_aloadX_n dX8_count_108 rfl ?_
      refine ev_getR dX8_count_109 fX8_26 rfl (by first | rfl | assumption) (by first | rfl | assumption) ?_
      have hnn : 0 < n := by omega
      have hcn := (hA hnn n (Nat.le_refl n)).cnt
      refine ev_gI 4 dX8_count_112 fX8_105 rfl (by first | rfl | assumption) rfl ?_
      rw [hs]
      refine ev_callv (ci := 4) (c_ptsA hnn (Nat.le_refl n) M hC) dX8_count_115 tX4_pointsAhead.1 kX8_170 tX4_pointsAhead.2.1 tX4_pointsAhead.2.2.1 rfl (by first | rfl | assumption) tX4_pointsAhead.2.2.2 ⟨⟨Nat.le_of_ble_eq_true rfl, Nat.le_of_ble_eq_true rfl⟩, Nat.le_of_ble_eq_true rfl, Nat.le_of_ble_eq_true rfl⟩ rfl (Nat.le_of_ble_eq_true rfl) ?_
      rintro r K' M' P' ⟨rfl, rfl, rfl, hM'⟩
      rw [hM']
      clear hM' M'
      try rw [hcn]
      exact ev_ireturn dX8_count_118 ⟨_, rfl, rfl⟩ (rz ⟨by rw [h1]; unfold cntV; rw [if_neg (by decide), if_neg (by decide), if_neg (by decide), if_neg (by decide), if_neg (by decide), if_pos rfl]; first | rw [if_pos (by omega)] | rw [if_neg (by omega)], by first | exact hrf | (rw [← hcn]; exact Pc.pt hC)⟩)
    · refine ev_iconst dX8_count_100 ?_
      refine ev_goto (tgt := 118) dX8_count_101 (by decide) ?_
      try rw [hcn]
      exact ev_ireturn dX8_count_118 ⟨_, rfl, rfl⟩ (rz ⟨by rw [h1]; unfold cntV; rw [if_neg (by decide), if_neg (by decide), if_neg (by decide), if_neg (by decide), if_neg (by decide), if_pos rfl]; first | rw [if_pos (by omega)] | rw [if_neg (by omega)], by first | exact hrf | (rw [← hcn]; exact Pc.pt hC)⟩)
  · refine ev_tableIn (off := 118) (tgt := 119) dX8_count_1 (by omega) (by omega) (by omega) (by rw [h1]; rfl) (by decide) ?_
    first | refine ev_aload_n dX8_count_119 rfl ?_ | refine ev_aloadX_n dX8_count_119 rfl ?_
    refine ev_getR dX8_count_120 fX8_40 rfl (by first | rfl | assumption) (by first | rfl | assumption) ?_
    refine ev_callv (ci := 2) (c_countAll M) dX8_count_123 tX2_countAll.1 kX8_253 tX2_countAll.2.1 tX2_countAll.2.2.1 rfl (by first | rfl | assumption) tX2_countAll.2.2.2 ⟨⟨Nat.le_of_ble_eq_true rfl, Nat.le_of_ble_eq_true rfl⟩, Nat.le_of_ble_eq_true rfl, Nat.le_of_ble_eq_true rfl⟩ rfl (Nat.le_of_ble_eq_true rfl) ?_
    rintro r K' M' P' ⟨rfl, rfl, rfl, hM'⟩
    rw [hM']
    clear hM' M'
    exact ev_ireturn dX8_count_126 ⟨_, rfl, rfl⟩ (rz ⟨by rw [h1]; unfold cntV; rw [if_neg (by decide), if_neg (by decide), if_neg (by decide), if_neg (by decide), if_neg (by decide), if_neg (by decide), if_pos rfl], hrf⟩)
  · refine ev_tableIn (off := 126) (tgt := 127) dX8_count_1 (by omega) (by omega) (by omega) (by rw [h1]; rfl) (by decide) ?_
    first | refine ev_aload_n dX8_count_127 rfl ?_ | refine ev_aloadX_n dX8_count_127 rfl ?_
    refine ev_getR dX8_count_128 fX8_47 rfl (by first | rfl | assumption) (by first | rfl | assumption) ?_
    refine ev_gI 2 dX8_count_131 fX8_101 rfl (by first | rfl | assumption) rfl ?_
    exact ev_ireturn dX8_count_134 ⟨_, rfl, rfl⟩ (rz ⟨by rw [h1]; unfold cntV; rw [if_neg (by decide), if_neg (by decide), if_neg (by decide), if_neg (by decide), if_neg (by decide), if_neg (by decide), if_neg (by decide), if_pos rfl], hrf⟩)
  · refine ev_tableIn (off := 134) (tgt := 135) dX8_count_1 (by omega) (by omega) (by omega) (by rw [h1]; rfl) (by decide) ?_
    first | refine ev_aload_n dX8_count_135 rfl ?_ | refine ev_aloadX_n dX8_count_135 rfl ?_
    refine ev_getR dX8_count_136 fX8_10 rfl (by first | rfl | assumption) (by first | rfl | assumption) ?_
    refine ev_gI 1 dX8_count_139 fX8_79 rfl (by first | rfl | assumption) rfl ?_
    exact ev_ireturn dX8_count_142 ⟨_, rfl, rfl⟩ (rz ⟨by rw [h1]; unfold cntV; rw [if_neg (by decide), if_neg (by decide), if_neg (by decide), if_neg (by decide), if_neg (by decide), if_neg (by decide), if_neg (by decide), if_neg (by decide), if_pos rfl], hrf⟩)
  · refine ev_tableIn (off := 142) (tgt := 143) dX8_count_1 (by omega) (by omega) (by omega) (by rw [h1]; rfl) (by decide) ?_
    first | refine ev_aload_n dX8_count_143 rfl ?_ | refine ev_aloadX_n dX8_count_143 rfl ?_
    refine ev_gI 11 dX8_count_144 fX8_75 rfl (by first | rfl | assumption) rfl ?_
    exact ev_ireturn dX8_count_147 ⟨_, rfl, rfl⟩ (rz ⟨by rw [h1]; unfold cntV; rw [if_neg (by decide), if_neg (by decide), if_neg (by decide), if_neg (by decide), if_neg (by decide), if_neg (by decide), if_neg (by decide), if_neg (by decide), if_neg (by decide), if_pos rfl], hrf⟩)
  · refine ev_tableOut (tgt := 148) dX8_count_1 (by omega) (by omega) (by decide) ?_
    refine ev_bipush dX8_count_148 ?_
    exact ev_ireturn dX8_count_150 ⟨_, rfl, rfl⟩ (rz ⟨by unfold cntV; rw [if_neg (by omega), if_neg (by omega), if_neg (by omega), if_neg (by omega), if_neg (by omega), if_neg (by omega), if_neg (by omega), if_neg (by omega), if_neg (by omega), if_neg (by omega)], hrf⟩)
def qfA (s : Int) (i : Nat) : Int := max (popc.getD (andI s (s_could.getD i 0)).toNat 0) (popc.getD (andI s (xorI (s_could.getD i 0) (-1))).toNat 0)
def qfS (s : Int) : Nat → Int × Int
  | 0 => (-1, 6)
  | i + 1 => if qfA s i < (qfS s i).2 then ((i : Int), qfA s i) else qfS s i
theorem qf_ok : ∀ s : Fin 32, ∀ i : Fin 4, (0 ≤ andI ((s.val : Nat) : Int) (s_could.getD i.val 0) ∧ andI ((s.val : Nat) : Int) (s_could.getD i.val 0) < 32) ∧ (0 ≤ andI ((s.val : Nat) : Int) (xorI (s_could.getD i.val 0) (-1)) ∧ andI ((s.val : Nat) : Int) (xorI (s_could.getD i.val 0) (-1)) < 32) := by decide
theorem popc_rng : ∀ s : Fin 32, 0 ≤ popc.getD s.val 0 ∧ popc.getD s.val 0 ≤ 5 := by decide
theorem popc_r {x : Int} (h : 0 ≤ x) (h2 : x < 32) : 0 ≤ popc.getD x.toNat 0 ∧ popc.getD x.toNat 0 ≤ 5 := popc_rng ⟨x.toNat, by omega⟩
theorem qf_r {s : Int} (h : 0 ≤ s) (h2 : s < 32) {i : Nat} (hi : i < 4) : (0 ≤ andI s (s_could.getD i 0) ∧ andI s (s_could.getD i 0) < 32) ∧ (0 ≤ andI s (xorI (s_could.getD i 0) (-1)) ∧ andI s (xorI (s_could.getD i 0) (-1)) < 32) := by
  have := qf_ok ⟨s.toNat, by omega⟩ ⟨i, hi⟩
  simp only [Int.toNat_of_nonneg h] at this
  exact this
def qfV (s : Int) : Int := if s = 0 then -1 else (qfS s 4).1
theorem qfS_rng {s : Int} (h : 0 ≤ s) (h2 : s < 32) : ∀ i : Nat, i ≤ 4 → 0 ≤ (qfS s i).2 ∧ (qfS s i).2 ≤ 6 ∧ -1 ≤ (qfS s i).1 ∧ (qfS s i).1 < i := by
  intro i
  induction i with
  | zero => intro _; simp [qfS]
  | succ i ih =>
    intro hi
    have h1 := ih (by omega)
    have h3 := qf_r h h2 (i := i) (by omega)
    have h4 := popc_r h3.1.1 h3.1.2
    have h5 := popc_r h3.2.1 h3.2.2
    simp only [qfS]
    have h6 : 0 ≤ qfA s i ∧ qfA s i ≤ 6 := by unfold qfA; omega
    split
    · exact ⟨by omega, by omega, by omega, by omega⟩
    · exact ⟨by omega, by omega, by omega, by omega⟩
theorem wC306 : Cond.fieldLink RX8 306 RX5 "COULD" "[I" ∈ WSg ∨ ∃ host, Cond.fieldLinkNest RX8 306 RX5 "COULD" "[I" host ∈ WSn := Or.inr ⟨"SumBounds", wsn_in 616 (by decide +kernel) (by decide +kernel)⟩
theorem c_questionFor {s : Int} (h : 0 ≤ s) (h2 : s < 32) (M : Mm) : Cm mX8_questionFor [vI s] M (fun r M' => r = some (vI (qfV s)) ∧ M' = M) := by
  unfold qfV
  refine cm_of (by decide +kernel) (fun _ => trivial) (Nat.le_of_ble_eq_true rfl) ?_
  refine ev_iload_n dX8_questionFor_0 rfl ?_
  refine ev_if_ne (tgt := 6) dX8_questionFor_1 (by decide) (by omega) (fun h0 => ?_) (fun h0 => ?_)
  case refine_2 =>
    refine ev_iconst dX8_questionFor_4 ?_
    exact ev_ireturn dX8_questionFor_5 ⟨_, rfl, rfl⟩ (rz ⟨by rw [if_pos h0], rfl⟩)
  rw [if_neg h0]
  refine ev_iconst dX8_questionFor_6 ?_
  refine ev_istore_n dX8_questionFor_7 (by decide) ?_
  refine ev_bipush dX8_questionFor_8 ?_
  refine ev_istore_n dX8_questionFor_10 (by decide) ?_
  refine ev_iconst dX8_questionFor_11 ?_
  refine ev_istore_n dX8_questionFor_12 (by decide) ?_
  refine ev_to (L' := [some (vI s), some (vI (qfS s (0 : Nat)).1), some (vI (qfS s (0 : Nat)).2), some (vI ((0 : Nat) : Int)), none, none, none]) (S' := []) (M' := M) (k' := 0) (n' := 0) ?_ (by repeat (first | exact trivial | refine ⟨rfl, ?_⟩)) rfl rfl rfl rfl
  refine up_loop (P := fun i => Ev mX8_questionFor 13 [some (vI s), some (vI (qfS s i).1), some (vI (qfS s i).2), some (vI (i : Int)), none, none, none] [] KK (M) PP 0 0 _) 4 ?_ ?_
  · refine ev_iload_n dX8_questionFor_13 rfl ?_
    refine ev_iconst dX8_questionFor_14 ?_
    refine ev_icmp_ge (tgt := 70) dX8_questionFor_15 (by decide) (by omega) (by omega) (fun hb15 => ?_) (fun hb15 => ?_)
    · refine ev_iload_n dX8_questionFor_70 rfl ?_
      exact ev_ireturn dX8_questionFor_71 ⟨_, rfl, rfl⟩ (rz ⟨rfl, rfl⟩)
    · omega
  · intro i hi hP
    obtain ⟨r1, r2⟩ := qf_r h h2 hi
    have p1 := popc_r r1.1 r1.2
    have p2 := popc_r r2.1 r2.2
    have q1 := qfS_rng h h2 i (by omega)
    simp only [qfS] at hP
    have eA : qfA s i = max (popc.getD (andI s (s_could.getD i 0)).toNat 0) (popc.getD (andI s (xorI (s_could.getD i 0) (-1))).toNat 0) := rfl
    refine ev_iload_n dX8_questionFor_13 rfl ?_
    refine ev_iconst dX8_questionFor_14 ?_
    refine ev_icmp_ge (tgt := 70) dX8_questionFor_15 (by decide) (by omega) (by omega) (fun hb15 => ?_) (fun hb15 => ?_)
    · omega
    · refine ev_iload_n dX8_questionFor_18 rfl ?_
      refine ev_gcould dX8_questionFor_19 wC306 ?_
      refine ev_iload_n dX8_questionFor_22 rfl ?_
      refine ev_cald dX8_questionFor_23 (by omega) (by omega) ?_
      rw [Int.toNat_natCast]
      refine ev_iand dX8_questionFor_24 ?_
      refine ev_calls (c_bitCount r1.1 r1.2 M) dX8_questionFor_25 tJ6_bitCount_0f7a4.1 kX8_309 tJ6_bitCount_0f7a4.2.1 tJ6_bitCount_0f7a4.2.2 ⟨⟨Nat.le_of_ble_eq_true rfl, Nat.le_of_ble_eq_true rfl⟩, Nat.le_of_ble_eq_true rfl, Nat.le_of_ble_eq_true rfl⟩ rfl (Nat.le_of_ble_eq_true rfl) ?_
      rintro r K' M' P' ⟨rfl, rfl, rfl, hM'⟩
      rw [hM']
      clear hM' M'
      refine ev_istore dX8_questionFor_28 (by decide) ?_
      refine ev_iload_n dX8_questionFor_30 rfl ?_
      refine ev_gcould dX8_questionFor_31 wC306 ?_
      refine ev_iload_n dX8_questionFor_34 rfl ?_
      refine ev_cald dX8_questionFor_35 (by omega) (by omega) ?_
      rw [Int.toNat_natCast]
      refine ev_iconst dX8_questionFor_36 ?_
      refine ev_ixor dX8_questionFor_37 ?_
      refine ev_iand dX8_questionFor_38 ?_
      refine ev_calls (c_bitCount r2.1 r2.2 M) dX8_questionFor_39 tJ6_bitCount_0f7a4.1 kX8_309 tJ6_bitCount_0f7a4.2.1 tJ6_bitCount_0f7a4.2.2 ⟨⟨Nat.le_of_ble_eq_true rfl, Nat.le_of_ble_eq_true rfl⟩, Nat.le_of_ble_eq_true rfl, Nat.le_of_ble_eq_true rfl⟩ rfl (Nat.le_of_ble_eq_true rfl) ?_
      rintro r K' M' P' ⟨rfl, rfl, rfl, hM'⟩
      rw [hM']
      clear hM' M'
      refine ev_istore dX8_questionFor_42 (by decide) ?_
      refine ev_iload dX8_questionFor_44 rfl ?_
      refine ev_iload dX8_questionFor_46 rfl ?_
      refine ev_calls (c_max (by omega) (by omega) M) dX8_questionFor_48 tJ9_max_7cf53.1 kX8_314 tJ9_max_7cf53.2.1 tJ9_max_7cf53.2.2 ⟨⟨Nat.le_of_ble_eq_true rfl, Nat.le_of_ble_eq_true rfl⟩, Nat.le_of_ble_eq_true rfl, Nat.le_of_ble_eq_true rfl⟩ rfl (Nat.le_of_ble_eq_true rfl) ?_
      rintro r K' M' P' ⟨rfl, rfl, rfl, hM'⟩
      rw [hM']
      clear hM' M'
      rw [← eA]
      clear p1 p2
      have hqa : 0 ≤ qfA s i ∧ qfA s i ≤ 6 := by have p1 := popc_r r1.1 r1.2; have p2 := popc_r r2.1 r2.2; rw [eA]; omega
      refine ev_istore dX8_questionFor_51 (by decide) ?_
      refine ev_iload dX8_questionFor_53 rfl ?_
      refine ev_iload_n dX8_questionFor_55 rfl ?_
      refine ev_icmp_ge (tgt := 64) dX8_questionFor_56 (by decide) (by omega) (by omega) (fun hb56 => ?_) (fun hb56 => ?_)
      · refine ev_iinc dX8_questionFor_64 rfl (by decide) ?_
        refine ev_goto (tgt := 13) dX8_questionFor_67 (by decide) ?_
        first | rw [if_neg (by omega)] at hP | rw [if_pos (by omega)] at hP
        exact ev_to hP (by repeat (first | exact trivial | refine ⟨rfl, ?_⟩)) rfl rfl rfl rfl
      · refine ev_iload dX8_questionFor_59 rfl ?_
        refine ev_istore_n dX8_questionFor_61 (by decide) ?_
        refine ev_iload_n dX8_questionFor_62 rfl ?_
        refine ev_istore_n dX8_questionFor_63 (by decide) ?_
        refine ev_iinc dX8_questionFor_64 rfl (by decide) ?_
        refine ev_goto (tgt := 13) dX8_questionFor_67 (by decide) ?_
        first | rw [if_neg (by omega)] at hP | rw [if_pos (by omega)] at hP
        exact ev_to hP (by repeat (first | exact trivial | refine ⟨rfl, ?_⟩)) rfl rfl rfl rfl
theorem and32 : ∀ a b : Fin 32, 0 ≤ andI ((a.val : Nat) : Int) ((b.val : Nat) : Int) ∧ andI ((a.val : Nat) : Int) ((b.val : Nat) : Int) < 32 := by decide +kernel
theorem and32' {a b : Int} (h1 : 0 ≤ a) (h2 : a < 32) (h3 : 0 ≤ b) (h4 : b < 32) : 0 ≤ andI a b ∧ andI a b < 32 := by
  have := and32 ⟨a.toNat, by omega⟩ ⟨b.toNat, by omega⟩
  simp only [Int.toNat_of_nonneg h1, Int.toNat_of_nonneg h3] at this
  exact this
theorem soS_rng {fs fo : Int → Int} {st : Int} : ∀ n : Nat, (∀ j : Int, 0 ≤ j → j < n → 0 ≤ fo j ∧ fo j < 32) → 0 ≤ soS fs fo st n ∧ soS fs fo st n < 32 := by
  intro n
  induction n with
  | zero => intro _; simp [soS]
  | succ n ih =>
    intro h
    have h1 := ih (fun j a b => h j a (by omega))
    have h2 := h n (by omega) (by omega)
    simp only [soS]
    split
    · exact and32' h1.1 h1.2 h2.1 h2.2
    · exact h1
noncomputable def stpV (M : Mm) (A : Nat → PS) (k : Nat) (w : Int) : Int := if w = 0 then M 10 k else if w = 1 then M 11 k else if w = 2 then M 12 k else if w = 3 then (if M 10 k = 0 ∨ M 10 k = 1 ∨ M 10 k = 3 then M 13 k + 100 else -1) else if w = 4 then deadV A k else if w = 5 then b01 ((∃ p, A k p) ∧ ∀ p, ¬ A (k + 1) p) else if w = 6 then idleV (M 10) A k else if w = 7 then soS (M 41) (M 42) k (M 40 2).toNat else if w = 8 then qfV (soS (M 41) (M 42) k (M 40 2).toNat) else -102
theorem c_step {n : Nat} {x w : Int} (hx : inR x) (hw : inR w) (M : Mm) (hC : CI M n) {A : Nat → PS} (hA : 0 < n → ∀ q, q ≤ n → Rp M (aC q) (A q)) : Cm mX8_step [vR 0, vI x, vI w] M (fun r M' => M' = M ∧ (((x < 0 ∨ n ≤ x) ∧ r = some (vI (-101))) ∨ ∃ k : Nat, x = k ∧ k < n ∧ r = some (vI (stpV M A k w)))) := by
  have hs := hC.sz
  have h6 := hC.n6
  have s0 := hC.sn0
  have s1 := hC.sn1
  refine cm_of (by decide +kernel) (fun _ => trivial) (Nat.le_of_ble_eq_true rfl) ?_
  first | refine ev_aload_n dX8_step_0 rfl ?_ | refine ev_aloadX_n dX8_step_0 rfl ?_
  refine ev_iload_n dX8_step_1 rfl ?_
  refine ev_callv (ci := 8) (c_isStep hx M (by omega)) dX8_step_2 tX8_isStep.1 kX8_106 tX8_isStep.2.1 tX8_isStep.2.2.1 rfl (by first | rfl | assumption) tX8_isStep.2.2.2 ⟨⟨Nat.le_of_ble_eq_true rfl, Nat.le_of_ble_eq_true rfl⟩, Nat.le_of_ble_eq_true rfl, Nat.le_of_ble_eq_true rfl⟩ rfl (Nat.le_of_ble_eq_true rfl) ?_
  rintro r K' M' P' ⟨rfl, rfl, ⟨v2, rfl, hw2, hv2⟩, hM'⟩
  rw [hM']
  clear hM' M'
  refine ev_if_ne (tgt := 11) dX8_step_5 (by decide) (by omega) (fun hb5 => ?_) (fun hb5 => ?_)
  case refine_2 =>
    refine ev_bipush dX8_step_8 ?_
    exact ev_ireturn dX8_step_10 ⟨_, rfl, rfl⟩ (rz ⟨rfl, Or.inl ⟨by have := (not_congr hv2).mp (by omega); omega, rfl⟩⟩)
  have g2 := hv2.mp (by omega)
  obtain ⟨k, rfl⟩ := Int.eq_ofNat_of_zero_le g2.1
  have hb := hC.b9 k (by omega) (by omega)
  simp only [Nat.reduceAdd] at hb
  have hk : k < n := by omega
  have hR := hA (by omega) k (by omega)
  have hR1 := hA (by omega) (k + 1) (by omega)
  have hsn : M 40 2 = ((M 40 2).toNat : Int) := (Int.toNat_of_nonneg s0).symm
  have hso := soS_rng (fs := M 41) (fo := M 42) (st := k) (M 40 2).toNat (fun j a b => (hC.snr j a (by omega)).1)
  have hse := c_sortsOf isSe40 (st := (k : Int)) M hsn (by omega) (by omega) (fun j a b => by have := (hC.snb j a b).1; show inR (M 41 j); omega)
  refine ev_iload_n dX8_step_11 rfl ?_
  rcases (by omega : w = 0 ∨ w = 1 ∨ w = 2 ∨ w = 3 ∨ w = 4 ∨ w = 5 ∨ w = 6 ∨ w = 7 ∨ w = 8 ∨ (w < 0 ∨ 8 < w)) with h12 | h12 | h12 | h12 | h12 | h12 | h12 | h12 | h12 | h12
  · refine ev_tableIn (off := 52) (tgt := 64) dX8_step_12 (by omega) (by omega) (by omega) (by rw [h12]; rfl) (by decide) ?_
    first | refine ev_aload_n dX8_step_64 rfl ?_ | refine ev_aloadX_n dX8_step_64 rfl ?_
    refine ev_getR dX8_step_65 fX8_26 rfl (by first | rfl | assumption) (by first | rfl | assumption) ?_
    refine ev_getR dX8_step_68 fX8_110 rfl (by first | rfl | assumption) (by first | rfl | assumption) ?_
    refine ev_iload_n dX8_step_71 rfl ?_
    refine ev_iaload dX8_step_72 (by first | rfl | assumption) (by omega) (by omega) (by decide) ?_
    exact ev_ireturn dX8_step_73 ⟨_, rfl, rfl⟩ (rz ⟨rfl, Or.inr ⟨k, rfl, hk, by rw [h12]; unfold stpV; rw [if_pos rfl]⟩⟩)
  · refine ev_tableIn (off := 62) (tgt := 74) dX8_step_12 (by omega) (by omega) (by omega) (by rw [h12]; rfl) (by decide) ?_
    first | refine ev_aload_n dX8_step_74 rfl ?_ | refine ev_aloadX_n dX8_step_74 rfl ?_
    refine ev_getR dX8_step_75 fX8_26 rfl (by first | rfl | assumption) (by first | rfl | assumption) ?_
    refine ev_getR dX8_step_78 fX8_114 rfl (by first | rfl | assumption) (by first | rfl | assumption) ?_
    refine ev_iload_n dX8_step_81 rfl ?_
    refine ev_iaload dX8_step_82 (by first | rfl | assumption) (by omega) (by omega) (by decide) ?_
    exact ev_ireturn dX8_step_83 ⟨_, rfl, rfl⟩ (rz ⟨rfl, Or.inr ⟨k, rfl, hk, by rw [h12]; unfold stpV; rw [if_neg (by decide), if_pos rfl]⟩⟩)
  · refine ev_tableIn (off := 72) (tgt := 84) dX8_step_12 (by omega) (by omega) (by omega) (by rw [h12]; rfl) (by decide) ?_
    first | refine ev_aload_n dX8_step_84 rfl ?_ | refine ev_aloadX_n dX8_step_84 rfl ?_
    refine ev_getR dX8_step_85 fX8_26 rfl (by first | rfl | assumption) (by first | rfl | assumption) ?_
    refine ev_getR dX8_step_88 fX8_117 rfl (by first | rfl | assumption) (by first | rfl | assumption) ?_
    refine ev_iload_n dX8_step_91 rfl ?_
    refine ev_iaload dX8_step_92 (by first | rfl | assumption) (by omega) (by omega) (by decide) ?_
    exact ev_ireturn dX8_step_93 ⟨_, rfl, rfl⟩ (rz ⟨rfl, Or.inr ⟨k, rfl, hk, by rw [h12]; unfold stpV; rw [if_neg (by decide), if_neg (by decide), if_pos rfl]⟩⟩)
  · refine ev_tableIn (off := 82) (tgt := 94) dX8_step_12 (by omega) (by omega) (by omega) (by rw [h12]; rfl) (by decide) ?_
    first | refine ev_aload_n dX8_step_94 rfl ?_ | refine ev_aloadX_n dX8_step_94 rfl ?_
    refine ev_getR dX8_step_95 fX8_26 rfl (by first | rfl | assumption) (by first | rfl | assumption) ?_
    refine ev_getR dX8_step_98 fX8_110 rfl (by first | rfl | assumption) (by first | rfl | assumption) ?_
    refine ev_iload_n dX8_step_101 rfl ?_
    refine ev_iaload dX8_step_102 (by first | rfl | assumption) (by omega) (by omega) (by decide) ?_
    refine ev_calls (c_hasNumber (by omega) M) dX8_step_103 tX8_hasNumber.1 kX8_120 tX8_hasNumber.2.1 tX8_hasNumber.2.2 ⟨⟨Nat.le_of_ble_eq_true rfl, Nat.le_of_ble_eq_true rfl⟩, Nat.le_of_ble_eq_true rfl, Nat.le_of_ble_eq_true rfl⟩ rfl (Nat.le_of_ble_eq_true rfl) ?_
    rintro r K' M' P' ⟨rfl, rfl, ⟨v103, rfl, hw103, hv103⟩, hM'⟩
    rw [hM']
    clear hM' M'
    refine ev_if_eq (tgt := 124) dX8_step_106 (by decide) (by omega) (fun hb106 => ?_) (fun hb106 => ?_)
    · have g103 := (not_congr hv103).mp (by omega)
      refine ev_iconst dX8_step_124 ?_
      exact ev_ireturn dX8_step_125 ⟨_, rfl, rfl⟩ (rz ⟨rfl, Or.inr ⟨k, rfl, hk, by rw [h12]; unfold stpV; rw [if_neg (by decide), if_neg (by decide), if_neg (by decide), if_pos rfl]; first | rw [if_pos g103] | rw [if_neg g103]⟩⟩)
    · have g103 := hv103.mp (by omega)
      first | refine ev_aload_n dX8_step_109 rfl ?_ | refine ev_aloadX_n dX8_step_109 rfl ?_
      refine ev_getR dX8_step_110 fX8_26 rfl (by first | rfl | assumption) (by first | rfl | assumption) ?_
      refine ev_getR dX8_step_113 fX8_123 rfl (by first | rfl | assumption) (by first | rfl | assumption) ?_
      refine ev_iload_n dX8_step_116 rfl ?_
      refine ev_iaload dX8_step_117 (by first | rfl | assumption) (by omega) (by omega) (by decide) ?_
      refine ev_bipush dX8_step_118 ?_
      refine ev_iadd dX8_step_120 ?_
      refine ev_goto (tgt := 125) dX8_step_121 (by decide) ?_
      exact ev_ireturn dX8_step_125 ⟨_, rfl, rfl⟩ (rz ⟨rfl, Or.inr ⟨k, rfl, hk, by rw [h12]; unfold stpV; rw [if_neg (by decide), if_neg (by decide), if_neg (by decide), if_pos rfl]; first | rw [if_pos g103] | rw [if_neg g103]⟩⟩)
  · refine ev_tableIn (off := 114) (tgt := 126) dX8_step_12 (by omega) (by omega) (by omega) (by rw [h12]; rfl) (by decide) ?_
    first | refine ev_aload_n dX8_step_126 rfl ?_ | refine ev_aloadX_n dX8_step_126 rfl ?_
    refine ev_getR dX8_step_127 fX8_33 rfl (by first | rfl | assumption) (by first | rfl | assumption) ?_
    refine ev_iload_n dX8_step_130 rfl ?_
    refine ev_callv (ci := 4) (c_isDead (by omega) M hR.e01) dX8_step_131 tX4_isDead.1 kX8_126 tX4_isDead.2.1 tX4_isDead.2.2.1 rfl (by first | rfl | assumption) tX4_isDead.2.2.2 ⟨⟨Nat.le_of_ble_eq_true rfl, Nat.le_of_ble_eq_true rfl⟩, Nat.le_of_ble_eq_true rfl, Nat.le_of_ble_eq_true rfl⟩ rfl (Nat.le_of_ble_eq_true rfl) ?_
    rintro r K' M' P' ⟨rfl, rfl, ⟨v131, rfl, hw131, hv131⟩, hM'⟩
    rw [hM']
    clear hM' M'
    refine ev_calls (c_asInt hw131 M) dX8_step_134 tX8_asInt.1 kX8_129 tX8_asInt.2.1 tX8_asInt.2.2 ⟨⟨Nat.le_of_ble_eq_true rfl, Nat.le_of_ble_eq_true rfl⟩, Nat.le_of_ble_eq_true rfl, Nat.le_of_ble_eq_true rfl⟩ rfl (Nat.le_of_ble_eq_true rfl) ?_
    rintro r K' M' P' ⟨rfl, rfl, rfl, hM'⟩
    rw [hM']
    clear hM' M'
    rw [hR.em] at hv131
    exact ev_ireturn dX8_step_137 ⟨_, rfl, rfl⟩ (rz ⟨rfl, Or.inr ⟨k, rfl, hk, by rw [h12, b01_v hw131 hv131]; unfold stpV; rw [if_neg (by decide), if_neg (by decide), if_neg (by decide), if_neg (by decide), if_pos rfl]; try rfl⟩⟩)
  · refine ev_tableIn (off := 126) (tgt := 138) dX8_step_12 (by omega) (by omega) (by omega) (by rw [h12]; rfl) (by decide) ?_
    first | refine ev_aload_n dX8_step_138 rfl ?_ | refine ev_aloadX_n dX8_step_138 rfl ?_
    refine ev_getR dX8_step_139 fX8_33 rfl (by first | rfl | assumption) (by first | rfl | assumption) ?_
    refine ev_iload_n dX8_step_142 rfl ?_
    refine ev_callv (ci := 4) (c_kills (by omega) M hR.e01 hR1.e01) dX8_step_143 tX4_kills.1 kX8_133 tX4_kills.2.1 tX4_kills.2.2.1 rfl (by first | rfl | assumption) tX4_kills.2.2.2 ⟨⟨Nat.le_of_ble_eq_true rfl, Nat.le_of_ble_eq_true rfl⟩, Nat.le_of_ble_eq_true rfl, Nat.le_of_ble_eq_true rfl⟩ rfl (Nat.le_of_ble_eq_true rfl) ?_
    rintro r K' M' P' ⟨rfl, rfl, ⟨v143, rfl, hw143, hv143⟩, hM'⟩
    rw [hM']
    clear hM' M'
    refine ev_calls (c_asInt hw143 M) dX8_step_146 tX8_asInt.1 kX8_129 tX8_asInt.2.1 tX8_asInt.2.2 ⟨⟨Nat.le_of_ble_eq_true rfl, Nat.le_of_ble_eq_true rfl⟩, Nat.le_of_ble_eq_true rfl, Nat.le_of_ble_eq_true rfl⟩ rfl (Nat.le_of_ble_eq_true rfl) ?_
    rintro r K' M' P' ⟨rfl, rfl, rfl, hM'⟩
    rw [hM']
    clear hM' M'
    rw [hR.ne, hR1.em] at hv143
    exact ev_ireturn dX8_step_149 ⟨_, rfl, rfl⟩ (rz ⟨rfl, Or.inr ⟨k, rfl, hk, by rw [h12, b01_v hw143 hv143]; unfold stpV; rw [if_neg (by decide), if_neg (by decide), if_neg (by decide), if_neg (by decide), if_neg (by decide), if_pos rfl]; try rfl⟩⟩)
  · refine ev_tableIn (off := 138) (tgt := 150) dX8_step_12 (by omega) (by omega) (by omega) (by rw [h12]; rfl) (by decide) ?_
    first | refine ev_aload_n dX8_step_150 rfl ?_ | refine ev_aloadX_n dX8_step_150 rfl ?_
    refine ev_iload_n dX8_step_151 rfl ?_
    refine ev_callv (ci := 8) (c_isIdle hk M hC (hA (by omega))) dX8_step_152 tX8_isIdle.1 kX8_136 tX8_isIdle.2.1 tX8_isIdle.2.2.1 rfl (by first | rfl | assumption) tX8_isIdle.2.2.2 ⟨⟨Nat.le_of_ble_eq_true rfl, Nat.le_of_ble_eq_true rfl⟩, Nat.le_of_ble_eq_true rfl, Nat.le_of_ble_eq_true rfl⟩ rfl (Nat.le_of_ble_eq_true rfl) ?_
    rintro r K' M' P' ⟨rfl, rfl, ⟨v152, rfl, hw152, hv152⟩, hM'⟩
    rw [hM']
    clear hM' M'
    refine ev_calls (c_asInt hw152 M) dX8_step_155 tX8_asInt.1 kX8_129 tX8_asInt.2.1 tX8_asInt.2.2 ⟨⟨Nat.le_of_ble_eq_true rfl, Nat.le_of_ble_eq_true rfl⟩, Nat.le_of_ble_eq_true rfl, Nat.le_of_ble_eq_true rfl⟩ rfl (Nat.le_of_ble_eq_true rfl) ?_
    rintro r K' M' P' ⟨rfl, rfl, rfl, hM'⟩
    rw [hM']
    clear hM' M'
    exact ev_ireturn dX8_step_158 ⟨_, rfl, rfl⟩ (rz ⟨rfl, Or.inr ⟨k, rfl, hk, by rw [h12, b01_v hw152 hv152]; unfold stpV; rw [if_neg (by decide), if_neg (by decide), if_neg (by decide), if_neg (by decide), if_neg (by decide), if_neg (by decide), if_pos rfl]; try rfl⟩⟩)
  · refine ev_tableIn (off := 147) (tgt := 159) dX8_step_12 (by omega) (by omega) (by omega) (by rw [h12]; rfl) (by decide) ?_
    first | refine ev_aload_n dX8_step_159 rfl ?_ | refine ev_aloadX_n dX8_step_159 rfl ?_
    refine ev_getR dX8_step_160 fX8_47 rfl (by first | rfl | assumption) (by first | rfl | assumption) ?_
    refine ev_iload_n dX8_step_163 rfl ?_
    refine ev_callv (ci := 5) hse dX8_step_164 tX5_sortsOf.1 kX8_139 tX5_sortsOf.2.1 tX5_sortsOf.2.2.1 rfl (by first | rfl | assumption) tX5_sortsOf.2.2.2 ⟨⟨Nat.le_of_ble_eq_true rfl, Nat.le_of_ble_eq_true rfl⟩, Nat.le_of_ble_eq_true rfl, Nat.le_of_ble_eq_true rfl⟩ rfl (Nat.le_of_ble_eq_true rfl) ?_
    rintro r K' M' P' ⟨rfl, rfl, rfl, hM'⟩
    rw [hM']
    clear hM' M'
    exact ev_ireturn dX8_step_167 ⟨_, rfl, rfl⟩ (rz ⟨rfl, Or.inr ⟨k, rfl, hk, by rw [h12]; unfold stpV; rw [if_neg (by decide), if_neg (by decide), if_neg (by decide), if_neg (by decide), if_neg (by decide), if_neg (by decide), if_neg (by decide), if_pos rfl]⟩⟩)
  · refine ev_tableIn (off := 156) (tgt := 168) dX8_step_12 (by omega) (by omega) (by omega) (by rw [h12]; rfl) (by decide) ?_
    first | refine ev_aload_n dX8_step_168 rfl ?_ | refine ev_aloadX_n dX8_step_168 rfl ?_
    refine ev_getR dX8_step_169 fX8_47 rfl (by first | rfl | assumption) (by first | rfl | assumption) ?_
    refine ev_iload_n dX8_step_172 rfl ?_
    refine ev_callv (ci := 5) hse dX8_step_173 tX5_sortsOf.1 kX8_139 tX5_sortsOf.2.1 tX5_sortsOf.2.2.1 rfl (by first | rfl | assumption) tX5_sortsOf.2.2.2 ⟨⟨Nat.le_of_ble_eq_true rfl, Nat.le_of_ble_eq_true rfl⟩, Nat.le_of_ble_eq_true rfl, Nat.le_of_ble_eq_true rfl⟩ rfl (Nat.le_of_ble_eq_true rfl) ?_
    rintro r K' M' P' ⟨rfl, rfl, rfl, hM'⟩
    rw [hM']
    clear hM' M'
    refine ev_calls (c_questionFor hso.1 hso.2 M) dX8_step_176 tX8_questionFor.1 kX8_143 tX8_questionFor.2.1 tX8_questionFor.2.2 ⟨⟨Nat.le_of_ble_eq_true rfl, Nat.le_of_ble_eq_true rfl⟩, Nat.le_of_ble_eq_true rfl, Nat.le_of_ble_eq_true rfl⟩ rfl (Nat.le_of_ble_eq_true rfl) ?_
    rintro r K' M' P' ⟨rfl, rfl, rfl, hM'⟩
    rw [hM']
    clear hM' M'
    exact ev_ireturn dX8_step_179 ⟨_, rfl, rfl⟩ (rz ⟨rfl, Or.inr ⟨k, rfl, hk, by rw [h12]; unfold stpV; rw [if_neg (by decide), if_neg (by decide), if_neg (by decide), if_neg (by decide), if_neg (by decide), if_neg (by decide), if_neg (by decide), if_neg (by decide), if_pos rfl]⟩⟩)
  · refine ev_tableOut (tgt := 180) dX8_step_12 (by omega) (by omega) (by decide) ?_
    refine ev_bipush dX8_step_180 ?_
    exact ev_ireturn dX8_step_182 ⟨_, rfl, rfl⟩ (rz ⟨rfl, Or.inr ⟨k, rfl, hk, by unfold stpV; rw [if_neg (by omega), if_neg (by omega), if_neg (by omega), if_neg (by omega), if_neg (by omega), if_neg (by omega), if_neg (by omega), if_neg (by omega), if_neg (by omega)]⟩⟩)
