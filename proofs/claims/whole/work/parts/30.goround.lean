/-! ===== Run.goRound ===== -/
/-- places behind a top, step by step from t on -/
def plc (kf af bf zf : Int → Int) (T : PS) (t : Nat) : Nat → PS
  | 0 => T
  | j + 1 => stepS (kf ((t + j : Nat) : Int)) (af ((t + j : Nat) : Int)) (bf ((t + j : Nat) : Int)) (zf ((t + j : Nat) : Int)) (plc kf af bf zf T t j)
/-- the loop's body, steps t up to i -/
def bdy (kf af bf zf : Int → Int) (t i : Nat) (T : PS) : PS := plc kf af bf zf T t (i - t)
theorem oct_plc {kf af bf zf : Int → Int} {T : PS} {t i : Nat} (hT : Oct T) (hst : ∀ j : Nat, t ≤ j → j < i → stOK (kf j) (af j) (bf j) (zf j)) : ∀ j : Nat, t + j ≤ i → Oct (plc kf af bf zf T t j) := by
  intro j
  induction j with
  | zero => intro _; exact hT
  | succ j ih => intro hj; exact oct_step (ih (by omega)) (hst (t + j) (by omega) (by omega))
theorem oct_bdy {kf af bf zf : Int → Int} {t i : Nat} (hti : t ≤ i) (hst : ∀ j : Nat, t ≤ j → j < i → stOK (kf j) (af j) (bf j) (zf j)) (T : PS) (hT : Oct T) : Oct (bdy kf af bf zf t i T) := oct_plc hT hst (i - t) (by omega)
/-- what a loop may change -/
def FrR (M M' : Mm) (t i : Nat) : Prop := (∀ j, j ≠ 5 → M' 14 j = M 14 j) ∧ ∀ q, q ≠ 14 → ¬ (17 ≤ q ∧ q ≤ 22) → ¬ (aC t ≤ q ∧ q ≤ aC (i + 1) + 1) → M' q = M q
theorem FrR.s {M M1 M2 : Mm} {t i c : Nat} (h : FrR M M1 t i) (h2 : Fr2 M1 M2 c) (hc : (17 ≤ c ∧ c ≤ 21) ∨ (aC t ≤ c ∧ c ≤ aC (i + 1))) : FrR M M2 t i := by
  have ht : 23 ≤ aC t := by unfold aC; omega
  refine ⟨fun j hj => by rw [h2 14 (by omega) (by omega)]; exact h.1 j hj, fun q q1 q2 q3 => ?_⟩
  rw [h2 q (by omega) (by omega)]
  exact h.2 q q1 q2 q3
theorem c_goRound {t i N : Nat} (hti : t < i) (hi : i < 6) (M : Mm) {F : PS} (hF : Rp M (aC t) F) (hst : ∀ j : Nat, t ≤ j → j < i → stOK (M 10 j) (M 11 j) (M 12 j) (M 13 j)) (hN : LoopN F (bdy (M 10) (M 11) (M 12) (M 13) t i) N) (hr : 0 ≤ M 14 5) (hr2 : M 14 5 ≤ 100000) : Cm mX4_goRound [vR 14, vR 9, vI (t : Int), vI (i : Int)] M (fun r M' => r = none ∧ M' 14 5 = M 14 5 + N ∧ (∀ j, j ≤ i - t → Rp M' (aC (t + j)) (plc (M 10) (M 11) (M 12) (M 13) (joinS F (bdy (M 10) (M 11) (M 12) (M 13) t i (itT F (bdy (M 10) (M 11) (M 12) (M 13) t i) N))) t j)) ∧ Rp M' (aC (i + 1)) (joinS F (bdy (M 10) (M 11) (M 12) (M 13) t i (itT F (bdy (M 10) (M 11) (M 12) (M 13) t i) N))) ∧ FrR M M' t i) := by
  have st := sh_aC (k := t) (by omega)
  have si := sh_aC (k := i) (by omega)
  have si1 := sh_aC (k := i + 1) (by omega)
  have kt := st.1
  have ki := si.1
  have ki1 := si1.1
  have pt := pp_aC (k := t) (by omega)
  have pi := pp_aC (k := i) (by omega)
  have pi1 : PP 15 ((i : Int) + 1) = some (aC (i + 1)) := pp_aC (k := i + 1) (by omega)
  have oF := hF.oct
  have hbo := oct_bdy (Nat.le_of_lt hti) hst
  have hN40 : N ≤ 40 := by
    obtain ⟨N', h1, h2⟩ := loop_ends oF (hbd := hbo)
    have := hN.uniq h2
    omega
  have at23 : 23 ≤ aC t := by unfold aC; omega
  have ait : aC t + 1 < aC i := by unfold aC; omega
  have ai1 : aC i + 2 = aC (i + 1) := by unfold aC; omega
  generalize hbd : bdy (M 10) (M 11) (M 12) (M 13) t i = bd at hN hbo ⊢
  -- cells of the steps stay
  have stay : ∀ M', FrR M M' t i → M' 10 = M 10 ∧ M' 11 = M 11 ∧ M' 12 = M 12 ∧ M' 13 = M 13 := fun M' h => ⟨h.2 10 (by omega) (by omega) (by omega), h.2 11 (by omega) (by omega) (by omega), h.2 12 (by omega) (by omega) (by omega), h.2 13 (by omega) (by omega) (by omega)⟩
  refine cm_of (by decide +kernel) (fun _ => trivial) (Nat.le_of_ble_eq_true rfl) ?_
  first | refine ev_aload_n dX4_goRound_0 rfl ?_ | refine ev_aloadX_n dX4_goRound_0 rfl ?_
  refine ev_getR dX4_goRound_1 fX4_11 rfl (by first | rfl | assumption) (by first | rfl | assumption) ?_
  refine ev_iload_n dX4_goRound_4 rfl ?_
  refine ev_aaload dX4_goRound_5 (by first | rfl | assumption) (by omega) (by omega) (by decide) (by first | rfl | assumption) ?_
  refine ev_astore dX4_goRound_6 (by decide) ?_
  first | refine ev_aload_n dX4_goRound_8 rfl ?_ | refine ev_aloadX_n dX4_goRound_8 rfl ?_
  refine ev_getR dX4_goRound_9 fX4_11 rfl (by first | rfl | assumption) (by first | rfl | assumption) ?_
  refine ev_iload_n dX4_goRound_12 rfl ?_
  refine ev_aaload dX4_goRound_13 (by first | rfl | assumption) (by omega) (by omega) (by decide) (by first | rfl | assumption) ?_
  refine ev_astore dX4_goRound_14 (by decide) ?_
  first | refine ev_aload_n dX4_goRound_16 rfl ?_ | refine ev_aloadX_n dX4_goRound_16 rfl ?_
  refine ev_getR dX4_goRound_17 fX4_22 rfl (by first | rfl | assumption) (by first | rfl | assumption) ?_
  first | refine ev_aload dX4_goRound_20 rfl ?_ | refine ev_aloadX dX4_goRound_20 rfl ?_
  refine ev_callv (ci := 6) (c_copy sh_17 st (by omega) M hF.e01) dX4_goRound_22 tX6_copy.1 kX4_44 tX6_copy.2.1 tX6_copy.2.2.1 rfl (by first | rfl | assumption) tX6_copy.2.2.2 ⟨⟨Nat.le_of_ble_eq_true rfl, Nat.le_of_ble_eq_true rfl⟩, Nat.le_of_ble_eq_true rfl, Nat.le_of_ble_eq_true rfl⟩ rfl (Nat.le_of_ble_eq_true rfl) ?_
  rintro r K' M' P' ⟨rfl, rfl, rfl, hM'⟩
  rw [hM']
  clear hM' M'
  show Ev mX4_goRound _ _ _ KK (cpM M 17 (aC t)) PP _ _ _
  have a1 : Rp (cpM M 17 (aC t)) 17 F := Rp_cp hF
  have a2 : Fr2 M (cpM M 17 (aC t)) 17 := fr2_cp
  have a3 : Rp (cpM M 17 (aC t)) (aC t) F := Rp_fr hF a2 (by omega) (by omega) (by omega)
  have a4 : FrR M (cpM M 17 (aC t)) t i := FrR.s ⟨fun _ _ => rfl, fun _ _ _ _ => rfl⟩ a2 (Or.inl (by omega))
  have a5 : cpM M 17 (aC t) 14 5 = M 14 5 := by rw [a2 14 (by omega) (by omega)]
  generalize cpM M 17 (aC t) = M1 at *
  first | refine ev_aload_n dX4_goRound_25 rfl ?_ | refine ev_aloadX_n dX4_goRound_25 rfl ?_
  refine ev_getR dX4_goRound_26 fX4_29 rfl (by first | rfl | assumption) (by first | rfl | assumption) ?_
  first | refine ev_aload dX4_goRound_29 rfl ?_ | refine ev_aloadX dX4_goRound_29 rfl ?_
  refine ev_callv (ci := 6) (c_copy sh_21 st (by omega) M1 a3.e01) dX4_goRound_31 tX6_copy.1 kX4_44 tX6_copy.2.1 tX6_copy.2.2.1 rfl (by first | rfl | assumption) tX6_copy.2.2.2 ⟨⟨Nat.le_of_ble_eq_true rfl, Nat.le_of_ble_eq_true rfl⟩, Nat.le_of_ble_eq_true rfl, Nat.le_of_ble_eq_true rfl⟩ rfl (Nat.le_of_ble_eq_true rfl) ?_
  rintro r K' M' P' ⟨rfl, rfl, rfl, hM'⟩
  rw [hM']
  clear hM' M'
  show Ev mX4_goRound _ _ _ KK (cpM M1 21 (aC t)) PP _ _ _
  have b1 : Rp (cpM M1 21 (aC t)) 21 F := Rp_cp a3
  have b2 : Fr2 M1 (cpM M1 21 (aC t)) 21 := fr2_cp
  have b3 : Rp (cpM M1 21 (aC t)) (aC t) F := Rp_fr a3 b2 (by omega) (by omega) (by omega)
  have b4 : FrR M (cpM M1 21 (aC t)) t i := a4.s b2 (Or.inl (by omega))
  have b5 : cpM M1 21 (aC t) 14 5 = M 14 5 := by rw [b2 14 (by omega) (by omega)]; exact a5
  have b6 : Rp (cpM M1 21 (aC t)) 17 F := Rp_fr a1 b2 (by omega) (by omega) (by omega)
  generalize cpM M1 21 (aC t) = M2 at *
  refine ev_iconst dX4_goRound_34 ?_
  refine ev_istore dX4_goRound_35 (by decide) ?_
  -- the end: narrowed, and all steps once more
  have ends : ∀ M', Rp M' 17 F → Rp M' (aC i) (bd (itT F bd N)) → M' 14 5 = M 14 5 + N → FrR M M' t i → Ev mX4_goRound 141 [some (vR 14), some (vR 9), some (vI (t : Int)), some (vI (i : Int)), some (vR (aC t)), some (vR (aC i)), none, none] [] KK M' PP 0 0 (Rz mX4_goRound (fun r M' => r = none ∧ M' 14 5 = M 14 5 + N ∧ (∀ j, j ≤ i - t → Rp M' (aC (t + j)) (plc (M 10) (M 11) (M 12) (M 13) (joinS F (bd (itT F bd N))) t j)) ∧ Rp M' (aC (i + 1)) (joinS F (bd (itT F bd N))) ∧ FrR M M' t i)) := by
    intro M' c1 c2 c3 c4
    first | refine ev_aload dX4_goRound_141 rfl ?_ | refine ev_aloadX dX4_goRound_141 rfl ?_
    first | refine ev_aload_n dX4_goRound_143 rfl ?_ | refine ev_aloadX_n dX4_goRound_143 rfl ?_
    refine ev_getR dX4_goRound_144 fX4_22 rfl (by first | rfl | assumption) (by first | rfl | assumption) ?_
    refine ev_callv (ci := 6) (c_copy st sh_17 (by omega) M' c1.e01) dX4_goRound_147 tX6_copy.1 kX4_44 tX6_copy.2.1 tX6_copy.2.2.1 rfl (by first | rfl | assumption) tX6_copy.2.2.2 ⟨⟨Nat.le_of_ble_eq_true rfl, Nat.le_of_ble_eq_true rfl⟩, Nat.le_of_ble_eq_true rfl, Nat.le_of_ble_eq_true rfl⟩ rfl (Nat.le_of_ble_eq_true rfl) ?_
    rintro r K' M' P' ⟨rfl, rfl, rfl, hM'⟩
    rw [hM']
    clear hM' M'
    show Ev mX4_goRound _ _ _ KK (cpM M' (aC t) 17) PP _ _ _
    have d1 : Rp (cpM M' (aC t) 17) (aC t) F := Rp_cp c1
    have d2 : Fr2 M' (cpM M' (aC t) 17) (aC t) := fr2_cp
    have d3 : Rp (cpM M' (aC t) 17) (aC i) (bd (itT F bd N)) := Rp_fr c2 d2 (by omega) (by omega) (by omega)
    have d4 : FrR M (cpM M' (aC t) 17) t i := c4.s d2 (Or.inr (by omega))
    have d5 : cpM M' (aC t) 17 14 5 = M 14 5 + N := by rw [d2 14 (by omega) (by omega)]; exact c3
    generalize cpM M' (aC t) 17 = M3 at *
    first | refine ev_aload dX4_goRound_150 rfl ?_ | refine ev_aloadX dX4_goRound_150 rfl ?_
    first | refine ev_aload dX4_goRound_152 rfl ?_ | refine ev_aloadX dX4_goRound_152 rfl ?_
    refine ev_callv (ci := 6) (c_join st si (by omega) M3 d1.e01 d3.e01 (bdd_mono d1.1 (by omega)) (bdd_mono d3.1 (by omega))) dX4_goRound_154 tX6_join.1 kX4_84 tX6_join.2.1 tX6_join.2.2.1 rfl (by first | rfl | assumption) tX6_join.2.2.2 ⟨⟨Nat.le_of_ble_eq_true rfl, Nat.le_of_ble_eq_true rfl⟩, Nat.le_of_ble_eq_true rfl, Nat.le_of_ble_eq_true rfl⟩ rfl (Nat.le_of_ble_eq_true rfl) ?_
    rintro r K' M' P' ⟨rfl, rfl, rfl, hM'⟩
    rw [hM']
    clear hM' M'
    have e1 : Rp (jnM M3 (aC t) (aC i)) (aC t) (joinS F (bd (itT F bd N))) := Rp_join d1 d3 (by omega)
    have e2 : Fr2 M3 (jnM M3 (aC t) (aC i)) (aC t) := fr2_jn
    have e4 : FrR M (jnM M3 (aC t) (aC i)) t i := d4.s e2 (Or.inr (by omega))
    have e5 : jnM M3 (aC t) (aC i) 14 5 = M 14 5 + N := by rw [e2 14 (by omega) (by omega)]; exact d5
    generalize jnM M3 (aC t) (aC i) = M4 at *
    refine ev_iload_n dX4_goRound_157 rfl ?_
    refine ev_istore dX4_goRound_158 (by decide) ?_
    have lp : ∀ M5, (∀ j, j ≤ 0 → Rp M5 (aC (t + j)) (plc (M 10) (M 11) (M 12) (M 13) (joinS F (bd (itT F bd N))) t j)) → M5 14 5 = M 14 5 + N → FrR M M5 t i → Ev mX4_goRound 160 [some (vR 14), some (vR 9), some (vI (t : Int)), some (vI (i : Int)), some (vR (aC t)), some (vR (aC i)), some (vI ((t + 0 : Nat) : Int)), none] [] KK M5 PP 0 0 (Rz mX4_goRound (fun r M' => r = none ∧ M' 14 5 = M 14 5 + N ∧ (∀ j, j ≤ i - t → Rp M' (aC (t + j)) (plc (M 10) (M 11) (M 12) (M 13) (joinS F (bd (itT F bd N))) t j)) ∧ Rp M' (aC (i + 1)) (joinS F (bd (itT F bd N))) ∧ FrR M M' t i)) := by
      refine up_loop (P := fun k => ∀ M5, (∀ j, j ≤ k → Rp M5 (aC (t + j)) (plc (M 10) (M 11) (M 12) (M 13) (joinS F (bd (itT F bd N))) t j)) → M5 14 5 = M 14 5 + N → FrR M M5 t i → Ev mX4_goRound 160 [some (vR 14), some (vR 9), some (vI (t : Int)), some (vI (i : Int)), some (vR (aC t)), some (vR (aC i)), some (vI ((t + k : Nat) : Int)), none] [] KK M5 PP 0 0 (Rz mX4_goRound _)) (i - t) ?_ ?_
      · intro M5 f1 f2 f3
        refine ev_iload dX4_goRound_160 rfl ?_
        refine ev_iload_n dX4_goRound_162 rfl ?_
        refine ev_icmp_ge (tgt := 179) dX4_goRound_163 (by decide) (by omega) (by omega) (fun h => ?_) (fun h => ?_)
        · first | refine ev_aload_n dX4_goRound_179 rfl ?_ | refine ev_aloadX_n dX4_goRound_179 rfl ?_
          refine ev_getR dX4_goRound_180 fX4_11 rfl (by first | rfl | assumption) (by first | rfl | assumption) ?_
          refine ev_iload_n dX4_goRound_183 rfl ?_
          refine ev_iconst dX4_goRound_184 ?_
          refine ev_iadd dX4_goRound_185 ?_
          refine ev_aaload dX4_goRound_186 (by first | rfl | assumption) (by omega) (by omega) (by decide) (by first | rfl | assumption) ?_
          first | refine ev_aload dX4_goRound_187 rfl ?_ | refine ev_aloadX dX4_goRound_187 rfl ?_
          refine ev_callv (ci := 6) (c_copy si1 st (by omega) M5 (f1 0 (by omega)).e01) dX4_goRound_189 tX6_copy.1 kX4_44 tX6_copy.2.1 tX6_copy.2.2.1 rfl (by first | rfl | assumption) tX6_copy.2.2.2 ⟨⟨Nat.le_of_ble_eq_true rfl, Nat.le_of_ble_eq_true rfl⟩, Nat.le_of_ble_eq_true rfl, Nat.le_of_ble_eq_true rfl⟩ rfl (Nat.le_of_ble_eq_true rfl) ?_
          rintro r K' M' P' ⟨rfl, rfl, rfl, hM'⟩
          rw [hM']
          clear hM' M'
          show Ev mX4_goRound _ _ _ KK (cpM M5 (aC (i + 1)) (aC t)) PP _ _ _
          have g2 : Fr2 M5 (cpM M5 (aC (i + 1)) (aC t)) (aC (i + 1)) := fr2_cp
          refine ev_return dX4_goRound_192 rfl (rz ⟨rfl, ?_, fun j hj => ?_, ?_, f3.s g2 (Or.inr (by omega))⟩)
          · rw [g2 14 (by omega) (by omega)]; exact f2
          · have : aC (t + j) + 1 < aC (i + 1) := by unfold aC; omega
            exact Rp_fr (f1 j hj) g2 (by omega) (by omega) (by omega)
          · exact Rp_cp (f1 0 (by omega))
        · omega
      · intro k hk hP M5 f1 f2 f3
        obtain ⟨y0, y1, y2, y3⟩ := stay M5 f3
        refine ev_iload dX4_goRound_160 rfl ?_
        refine ev_iload_n dX4_goRound_162 rfl ?_
        refine ev_icmp_ge (tgt := 179) dX4_goRound_163 (by decide) (by omega) (by omega) (fun h => ?_) (fun h => ?_)
        · omega
        first | refine ev_aload_n dX4_goRound_166 rfl ?_ | refine ev_aloadX_n dX4_goRound_166 rfl ?_
        first | refine ev_aload_n dX4_goRound_167 rfl ?_ | refine ev_aloadX_n dX4_goRound_167 rfl ?_
        refine ev_iload dX4_goRound_168 rfl ?_
        refine ev_callv (ci := 4) (c_doStep (k := t + k) (by omega) M5 (f1 k (Nat.le_refl k)) (by rw [y0, y1, y2, y3]; exact hst (t + k) (by omega) (by omega))) dX4_goRound_170 tX4_doStep.1 kX4_80 tX4_doStep.2.1 tX4_doStep.2.2.1 rfl (by first | rfl | assumption) tX4_doStep.2.2.2 ⟨⟨Nat.le_of_ble_eq_true rfl, Nat.le_of_ble_eq_true rfl⟩, Nat.le_of_ble_eq_true rfl, Nat.le_of_ble_eq_true rfl⟩ rfl (Nat.le_of_ble_eq_true rfl) ?_
        rintro r K' M6 P' ⟨rfl, rfl, rfl, g1, g2⟩
        rw [y0, y1, y2, y3] at g1
        refine ev_iinc dX4_goRound_173 rfl (by decide) ?_
        refine ev_goto (tgt := 160) dX4_goRound_176 (by decide) ?_
        have hge : aC t + 1 < aC (t + k + 1) := by unfold aC; omega
        have hle : aC (t + k + 1) ≤ aC (i + 1) := by unfold aC; omega
        refine ev_to (hP M6 (fun j hj => ?_) (by rw [g2 14 (by omega) (by omega)]; exact f2) (f3.s g2 (Or.inr (by omega)))) ⟨rfl, rfl, rfl, rfl, rfl, rfl, rfl, trivial⟩ rfl rfl rfl rfl
        by_cases hj2 : j = k + 1
        · subst hj2
          exact g1
        · have : aC (t + j) + 1 < aC (t + k + 1) := by unfold aC; omega
          exact Rp_fr (f1 j (by omega)) g2 (by omega) (by omega) (by omega)
    refine ev_to (lp M4 (fun j hj => ?_) e5 e4) ⟨rfl, rfl, rfl, rfl, rfl, rfl, rfl, trivial⟩ rfl rfl rfl rfl
    have : j = 0 := by omega
    subst this
    exact e1
  -- the rounds
  have go : ∀ M', Rp M' (aC t) (itT F bd 0) → Rp M' 17 F → bdd 80000 (M' 22) → ((itR F bd 0).1 → M' 21 1 = 1) → (¬ (itR F bd 0).1 → M' 21 1 = 0 ∧ ∀ j, 0 ≤ j → j < 36 → M' 22 j = (itR F bd 0).2.1 j) → M' 14 5 = M 14 5 + ((0 : Nat) : Int) → FrR M M' t i → Ev mX4_goRound 37 [some (vR 14), some (vR 9), some (vI (t : Int)), some (vI (i : Int)), some (vR (aC t)), some (vR (aC i)), some (vI ((0 : Nat) : Int)), none] [] KK M' PP 0 0 (Rz mX4_goRound (fun r M' => r = none ∧ M' 14 5 = M 14 5 + N ∧ (∀ j, j ≤ i - t → Rp M' (aC (t + j)) (plc (M 10) (M 11) (M 12) (M 13) (joinS F (bd (itT F bd N))) t j)) ∧ Rp M' (aC (i + 1)) (joinS F (bd (itT F bd N))) ∧ FrR M M' t i)) := by
    -- one round, told as far as 'next'
    have round : ∀ (n : Nat), n ≤ N → ∀ (after : Mm → Prop) M', Rp M' (aC t) (itT F bd n) → Rp M' 17 F → M' 14 5 = M 14 5 + (n : Int) → FrR M M' t i →
        (∀ M6, Rp M6 (aC t) (itT F bd n) → Rp M6 17 F → Rp M6 19 (itN F bd n) → Rp M6 (aC i) (bd (itT F bd n)) → M6 21 = M' 21 → M6 22 = M' 22 → M6 14 5 = M 14 5 + (n : Int) → FrR M M6 t i → Ev mX4_goRound 85 [some (vR 14), some (vR 9), some (vI (t : Int)), some (vI (i : Int)), some (vR (aC t)), some (vR (aC i)), some (vI (n : Int)), none] [] KK M6 PP 0 0 (Rz mX4_goRound (fun r M' => r = none ∧ M' 14 5 = M 14 5 + N ∧ (∀ j, j ≤ i - t → Rp M' (aC (t + j)) (plc (M 10) (M 11) (M 12) (M 13) (joinS F (bd (itT F bd N))) t j)) ∧ Rp M' (aC (i + 1)) (joinS F (bd (itT F bd N))) ∧ FrR M M' t i))) →
        Ev mX4_goRound 37 [some (vR 14), some (vR 9), some (vI (t : Int)), some (vI (i : Int)), some (vR (aC t)), some (vR (aC i)), some (vI (n : Int)), none] [] KK M' PP 0 0 (Rz mX4_goRound (fun r M' => r = none ∧ M' 14 5 = M 14 5 + N ∧ (∀ j, j ≤ i - t → Rp M' (aC (t + j)) (plc (M 10) (M 11) (M 12) (M 13) (joinS F (bd (itT F bd N))) t j)) ∧ Rp M' (aC (i + 1)) (joinS F (bd (itT F bd N))) ∧ FrR M M' t i)) := by
      intro n hn after M' c1 c2 c3 c4 kk
      refine ev_iload dX4_goRound_37 rfl ?_
      refine ev_sipush dX4_goRound_39 ?_
      refine ev_icmp_ge (tgt := 141) dX4_goRound_42 (by decide) (by omega) (by omega) (fun hx => ?_) (fun hx => ?_)
      · omega
      refine ev_iload_n dX4_goRound_45 rfl ?_
      refine ev_istore dX4_goRound_46 (by decide) ?_
      have lp : ∀ M5, Rp M5 (aC (t + 0)) (plc (M 10) (M 11) (M 12) (M 13) (itT F bd n) t 0) → Rp M5 (aC t) (itT F bd n) → Rp M5 17 F → M5 21 = M' 21 → M5 22 = M' 22 → M5 14 5 = M 14 5 + (n : Int) → FrR M M5 t i → Ev mX4_goRound 48 [some (vR 14), some (vR 9), some (vI (t : Int)), some (vI (i : Int)), some (vR (aC t)), some (vR (aC i)), some (vI (n : Int)), some (vI ((t + 0 : Nat) : Int))] [] KK M5 PP 0 0 (Rz mX4_goRound (fun r M' => r = none ∧ M' 14 5 = M 14 5 + N ∧ (∀ j, j ≤ i - t → Rp M' (aC (t + j)) (plc (M 10) (M 11) (M 12) (M 13) (joinS F (bd (itT F bd N))) t j)) ∧ Rp M' (aC (i + 1)) (joinS F (bd (itT F bd N))) ∧ FrR M M' t i)) := by
        refine up_loop (P := fun k => ∀ M5, Rp M5 (aC (t + k)) (plc (M 10) (M 11) (M 12) (M 13) (itT F bd n) t k) → Rp M5 (aC t) (itT F bd n) → Rp M5 17 F → M5 21 = M' 21 → M5 22 = M' 22 → M5 14 5 = M 14 5 + (n : Int) → FrR M M5 t i → Ev mX4_goRound 48 [some (vR 14), some (vR 9), some (vI (t : Int)), some (vI (i : Int)), some (vR (aC t)), some (vR (aC i)), some (vI (n : Int)), some (vI ((t + k : Nat) : Int))] [] KK M5 PP 0 0 (Rz mX4_goRound _)) (i - t) ?_ ?_
        · intro M5 f1 f2 f3 f4 f5 f6 f7
          have e0 : aC (t + (i - t)) = aC i := by rw [Nat.add_sub_of_le (Nat.le_of_lt hti)]
          have f1' : Rp M5 (aC i) (bd (itT F bd n)) := by
            rw [e0] at f1
            rw [← hbd] at f1 ⊢
            exact f1
          refine ev_iload dX4_goRound_48 rfl ?_
          refine ev_iload_n dX4_goRound_50 rfl ?_
          refine ev_icmp_ge (tgt := 67) dX4_goRound_51 (by decide) (by omega) (by omega) (fun h => ?_) (fun h => ?_)
          · first | refine ev_aload_n dX4_goRound_67 rfl ?_ | refine ev_aloadX_n dX4_goRound_67 rfl ?_
            refine ev_getR dX4_goRound_68 fX4_26 rfl (by first | rfl | assumption) (by first | rfl | assumption) ?_
            first | refine ev_aload dX4_goRound_71 rfl ?_ | refine ev_aloadX dX4_goRound_71 rfl ?_
            refine ev_callv (ci := 6) (c_copy sh_19 st (by omega) M5 f2.e01) dX4_goRound_73 tX6_copy.1 kX4_44 tX6_copy.2.1 tX6_copy.2.2.1 rfl (by first | rfl | assumption) tX6_copy.2.2.2 ⟨⟨Nat.le_of_ble_eq_true rfl, Nat.le_of_ble_eq_true rfl⟩, Nat.le_of_ble_eq_true rfl, Nat.le_of_ble_eq_true rfl⟩ rfl (Nat.le_of_ble_eq_true rfl) ?_
            rintro r K' M' P' ⟨rfl, rfl, rfl, hM'⟩
            rw [hM']
            clear hM' M'
            show Ev mX4_goRound _ _ _ KK (cpM M5 19 (aC t)) PP _ _ _
            have g1 : Rp (cpM M5 19 (aC t)) 19 (itT F bd n) := Rp_cp f2
            have g2 : Fr2 M5 (cpM M5 19 (aC t)) 19 := fr2_cp
            have g3 : Rp (cpM M5 19 (aC t)) (aC t) (itT F bd n) := Rp_fr f2 g2 (by omega) (by omega) (by omega)
            have g4 : Rp (cpM M5 19 (aC t)) (aC i) (bd (itT F bd n)) := Rp_fr f1' g2 (by omega) (by omega) (by omega)
            have g5 : Rp (cpM M5 19 (aC t)) 17 F := Rp_fr f3 g2 (by omega) (by omega) (by omega)
            have g6 : cpM M5 19 (aC t) 21 = M' 21 := (g2 21 (by omega) (by omega)).trans f4
            have g7 : cpM M5 19 (aC t) 22 = M' 22 := (g2 22 (by omega) (by omega)).trans f5
            have g8 : cpM M5 19 (aC t) 14 5 = M 14 5 + (n : Int) := by rw [g2 14 (by omega) (by omega)]; exact f6
            have g9 : FrR M (cpM M5 19 (aC t)) t i := f7.s g2 (Or.inl (by omega))
            generalize cpM M5 19 (aC t) = M7 at *
            first | refine ev_aload_n dX4_goRound_76 rfl ?_ | refine ev_aloadX_n dX4_goRound_76 rfl ?_
            refine ev_getR dX4_goRound_77 fX4_26 rfl (by first | rfl | assumption) (by first | rfl | assumption) ?_
            first | refine ev_aload dX4_goRound_80 rfl ?_ | refine ev_aloadX dX4_goRound_80 rfl ?_
            refine ev_callv (ci := 6) (c_join sh_19 si (by omega) M7 g1.e01 g4.e01 (bdd_mono g1.1 (by omega)) (bdd_mono g4.1 (by omega))) dX4_goRound_82 tX6_join.1 kX4_84 tX6_join.2.1 tX6_join.2.2.1 rfl (by first | rfl | assumption) tX6_join.2.2.2 ⟨⟨Nat.le_of_ble_eq_true rfl, Nat.le_of_ble_eq_true rfl⟩, Nat.le_of_ble_eq_true rfl, Nat.le_of_ble_eq_true rfl⟩ rfl (Nat.le_of_ble_eq_true rfl) ?_
            rintro r K' M' P' ⟨rfl, rfl, rfl, hM'⟩
            rw [hM']
            clear hM' M'
            have k2 : Fr2 M7 (jnM M7 19 (aC i)) 19 := fr2_jn
            refine ev_to (kk (jnM M7 19 (aC i)) ?_ ?_ (Rp_join g1 g4 (by omega)) ?_ ?_ ?_ ?_ ?_) ⟨rfl, rfl, rfl, rfl, rfl, rfl, rfl, trivial⟩ rfl rfl rfl rfl
            · exact Rp_fr g3 k2 (by omega) (by omega) (by omega)
            · exact Rp_fr g5 k2 (by omega) (by omega) (by omega)
            · exact Rp_fr g4 k2 (by omega) (by omega) (by omega)
            · exact (k2 21 (by omega) (by omega)).trans g6
            · exact (k2 22 (by omega) (by omega)).trans g7
            · rw [k2 14 (by omega) (by omega)]; exact g8
            · exact g9.s k2 (Or.inl (by omega))
          · omega
        · intro k hk hP M5 f1 f2 f3 f4 f5 f6 f7
          obtain ⟨y0, y1, y2, y3⟩ := stay M5 f7
          refine ev_iload dX4_goRound_48 rfl ?_
          refine ev_iload_n dX4_goRound_50 rfl ?_
          refine ev_icmp_ge (tgt := 67) dX4_goRound_51 (by decide) (by omega) (by omega) (fun h => ?_) (fun h => ?_)
          · omega
          first | refine ev_aload_n dX4_goRound_54 rfl ?_ | refine ev_aloadX_n dX4_goRound_54 rfl ?_
          first | refine ev_aload_n dX4_goRound_55 rfl ?_ | refine ev_aloadX_n dX4_goRound_55 rfl ?_
          refine ev_iload dX4_goRound_56 rfl ?_
          refine ev_callv (ci := 4) (c_doStep (k := t + k) (by omega) M5 f1 (by rw [y0, y1, y2, y3]; exact hst (t + k) (by omega) (by omega))) dX4_goRound_58 tX4_doStep.1 kX4_80 tX4_doStep.2.1 tX4_doStep.2.2.1 rfl (by first | rfl | assumption) tX4_doStep.2.2.2 ⟨⟨Nat.le_of_ble_eq_true rfl, Nat.le_of_ble_eq_true rfl⟩, Nat.le_of_ble_eq_true rfl, Nat.le_of_ble_eq_true rfl⟩ rfl (Nat.le_of_ble_eq_true rfl) ?_
          rintro r K' M6 P' ⟨rfl, rfl, rfl, g1, g2⟩
          rw [y0, y1, y2, y3] at g1
          refine ev_iinc dX4_goRound_61 rfl (by decide) ?_
          refine ev_goto (tgt := 48) dX4_goRound_64 (by decide) ?_
          have hge : aC t + 1 < aC (t + k + 1) := by unfold aC; omega
          have hle : aC (t + k + 1) ≤ aC (i + 1) := by unfold aC; omega
          refine ev_to (hP M6 g1 ?_ ?_ ?_ ?_ ?_ (f7.s g2 (Or.inr (by omega)))) ⟨rfl, rfl, rfl, rfl, rfl, rfl, rfl, rfl, trivial⟩ rfl rfl rfl rfl
          · exact Rp_fr f2 g2 (by omega) (by omega) (by omega)
          · exact Rp_fr f3 g2 (by omega) (by omega) (by omega)
          · exact (g2 21 (by omega) (by omega)).trans f4
          · exact (g2 22 (by omega) (by omega)).trans f5
          · rw [g2 14 (by omega) (by omega)]; exact f6
      refine ev_to (lp M' c1 c1 c2 rfl rfl c3 c4) ⟨rfl, rfl, rfl, rfl, rfl, rfl, rfl, rfl, trivial⟩ rfl rfl rfl rfl
    refine up_loop (P := fun n => ∀ M', Rp M' (aC t) (itT F bd n) → Rp M' 17 F → bdd 80000 (M' 22) → ((itR F bd n).1 → M' 21 1 = 1) → (¬ (itR F bd n).1 → M' 21 1 = 0 ∧ ∀ j, 0 ≤ j → j < 36 → M' 22 j = (itR F bd n).2.1 j) → M' 14 5 = M 14 5 + (n : Int) → FrR M M' t i → Ev mX4_goRound 37 [some (vR 14), some (vR 9), some (vI (t : Int)), some (vI (i : Int)), some (vR (aC t)), some (vR (aC i)), some (vI (n : Int)), none] [] KK M' PP 0 0 (Rz mX4_goRound _)) N ?_ ?_
    · intro M' c1 c2 c3 c4 c5 c6 c7
      refine round N (Nat.le_refl N) (fun _ => True) M' c1 c2 c6 c7 (fun M6 d1 d2 d3 d4 d5 d6 d7 d8 => ?_)
      first | refine ev_aload_n dX4_goRound_85 rfl ?_ | refine ev_aloadX_n dX4_goRound_85 rfl ?_
      refine ev_getR dX4_goRound_86 fX4_26 rfl (by first | rfl | assumption) (by first | rfl | assumption) ?_
      first | refine ev_aload dX4_goRound_89 rfl ?_ | refine ev_aloadX dX4_goRound_89 rfl ?_
      refine ev_callv (ci := 6) (c_isWithin sh_19 st M6 d3.e01 d1.e01 (bdd_mono d3.1 (by omega)) (bdd_mono d1.1 (by omega))) dX4_goRound_91 tX6_isWithin.1 kX4_87 tX6_isWithin.2.1 tX6_isWithin.2.2.1 rfl (by first | rfl | assumption) tX6_isWithin.2.2.2 ⟨⟨Nat.le_of_ble_eq_true rfl, Nat.le_of_ble_eq_true rfl⟩, Nat.le_of_ble_eq_true rfl, Nat.le_of_ble_eq_true rfl⟩ rfl (Nat.le_of_ble_eq_true rfl) ?_
      rintro r K' M8 P' ⟨rfl, rfl, ⟨v, rfl, hv1, hv2⟩, hM8⟩
      rw [hM8]
      rw [Rp_wth d3 d1] at hv2
      have hv : v = 1 := hv2.mpr hN.1
      refine ev_if_eq (tgt := 100) dX4_goRound_94 (by decide) (by omega) (fun hq => ?_) (fun hq => ?_)
      · omega
      refine ev_goto (tgt := 141) dX4_goRound_97 (by decide) ?_
      exact ev_to (ends M6 d2 d4 d7 d8) ⟨rfl, rfl, rfl, rfl, rfl, rfl, trivial⟩ rfl rfl rfl rfl
    · intro n hn hP M' c1 c2 c3 c4 c5 c6 c7
      refine round n (Nat.le_of_lt hn) (fun _ => True) M' c1 c2 c6 c7 (fun M6 d1 d2 d3 d4 d5 d6 d7 d8 => ?_)
      have hnc := hN.2 n hn
      obtain ⟨i1, i2, i3⟩ := it_ok oF hbo (n + 1) (fun j hj => hN.2 j (by omega))
      obtain ⟨i4, i5⟩ := i2 (fun z => z)
      first | refine ev_aload_n dX4_goRound_85 rfl ?_ | refine ev_aloadX_n dX4_goRound_85 rfl ?_
      refine ev_getR dX4_goRound_86 fX4_26 rfl (by first | rfl | assumption) (by first | rfl | assumption) ?_
      first | refine ev_aload dX4_goRound_89 rfl ?_ | refine ev_aloadX dX4_goRound_89 rfl ?_
      refine ev_callv (ci := 6) (c_isWithin sh_19 st M6 d3.e01 d1.e01 (bdd_mono d3.1 (by omega)) (bdd_mono d1.1 (by omega))) dX4_goRound_91 tX6_isWithin.1 kX4_87 tX6_isWithin.2.1 tX6_isWithin.2.2.1 rfl (by first | rfl | assumption) tX6_isWithin.2.2.2 ⟨⟨Nat.le_of_ble_eq_true rfl, Nat.le_of_ble_eq_true rfl⟩, Nat.le_of_ble_eq_true rfl, Nat.le_of_ble_eq_true rfl⟩ rfl (Nat.le_of_ble_eq_true rfl) ?_
      rintro r K' M8 P' ⟨rfl, rfl, ⟨v, rfl, hv1, hv2⟩, hM8⟩
      rw [hM8]
      clear hM8 M8
      rw [Rp_wth d3 d1] at hv2
      have hv : v = 0 := by
        rcases hv1 with h | h
        · exact h
        · exact absurd (hv2.mp h) hnc
      -- next is not empty, its bounds are the set's own
      have hne : ∃ p, itN F bd n p := by
        by_cases hc : ∃ p, itN F bd n p
        · exact hc
        · exact absurd (fun p hp => absurd ⟨p, hp⟩ hc) hnc
      have n0 : M6 19 1 = 0 := d3.ne.mpr hne
      have nb : ∀ j, 0 ≤ j → j < 36 → M6 20 j = bnF (itN F bd n) j := by
        intro j h1 h2
        rcases d3.2 with h | ⟨q1, q2, q3, q4⟩
        · omega
        · have e : itN F bd n = byB (M6 20) := funext fun p => propext (q4 p)
          rw [e, bnF_tc q2 q3 h1 h2]
      have e21 : M6 21 1 = 0 ∨ M6 21 1 = 1 := by
        rw [d5]
        by_cases he : (itR F bd n).1
        · exact Or.inr (c4 he)
        · exact Or.inl (c5 he).1
      refine ev_if_eq (tgt := 100) dX4_goRound_94 (by decide) (by omega) (fun hq => ?_) (fun hq => ?_)
      · first | refine ev_aload_n dX4_goRound_100 rfl ?_ | refine ev_aloadX_n dX4_goRound_100 rfl ?_
        refine ev_dup dX4_goRound_101 ?_
        refine ev_gI 5 dX4_goRound_102 fX4_32 rfl (by first | rfl | assumption) rfl ?_
        refine ev_iconst dX4_goRound_105 ?_
        refine ev_iadd dX4_goRound_106 ?_
        refine ev_pI 5 dX4_goRound_107 sX4_32 rfl (by first | rfl | assumption) rfl ?_
        first | refine ev_aload_n dX4_goRound_110 rfl ?_ | refine ev_aloadX_n dX4_goRound_110 rfl ?_
        refine ev_getR dX4_goRound_111 fX4_29 rfl (by first | rfl | assumption) (by first | rfl | assumption) ?_
        first | refine ev_aload_n dX4_goRound_114 rfl ?_ | refine ev_aloadX_n dX4_goRound_114 rfl ?_
        refine ev_getR dX4_goRound_115 fX4_26 rfl (by first | rfl | assumption) (by first | rfl | assumption) ?_
        have w2 : Fr2 M6 (rwc M6 14 (up1 (M6 14) 5 (M6 14 5 + 1))) 14 → True := fun _ => trivial
        rw [upM_rw]
        have z21 : rwc M6 14 (up1 (M6 14) 5 (M6 14 5 + 1)) 21 = M6 21 := rwc_ne (by omega)
        have z22 : rwc M6 14 (up1 (M6 14) 5 (M6 14 5 + 1)) 22 = M6 22 := rwc_ne (by omega)
        have z19 : rwc M6 14 (up1 (M6 14) 5 (M6 14 5 + 1)) 19 = M6 19 := rwc_ne (by omega)
        have z20 : rwc M6 14 (up1 (M6 14) 5 (M6 14 5 + 1)) 20 = M6 20 := rwc_ne (by omega)
        have z14 : rwc M6 14 (up1 (M6 14) 5 (M6 14 5 + 1)) 14 5 = M6 14 5 + 1 := by rw [rwc_at, up1_s]
        have z17 : Rp (rwc M6 14 (up1 (M6 14) 5 (M6 14 5 + 1))) 17 F := Rp_cg d2 (by rw [rwc_ne (by omega)]) (fun j _ _ => by rw [rwc_ne (by omega)])
        have zf : FrR M (rwc M6 14 (up1 (M6 14) 5 (M6 14 5 + 1))) t i := ⟨fun j hj => by rw [rwc_at, up1_n hj]; exact d8.1 j hj, fun q q1 q2 q3 => by rw [rwc_ne q1]; exact d8.2 q q1 q2 q3⟩
        generalize rwc M6 14 (up1 (M6 14) 5 (M6 14 5 + 1)) = M9 at *
        refine ev_callv (ci := 6) (c_widen sh_21 sh_19 (by omega) M9 (by rw [z21]; exact e21) (by rw [z19]; exact d3.e01) (by rw [z22, d6]; exact bdd_mono c3 (by omega)) (by rw [z20]; exact bdd_mono d3.1 (by omega))) dX4_goRound_118 tX6_widen.1 kX4_91 tX6_widen.2.1 tX6_widen.2.2.1 rfl (by first | rfl | assumption) tX6_widen.2.2.2 ⟨⟨Nat.le_of_ble_eq_true rfl, Nat.le_of_ble_eq_true rfl⟩, Nat.le_of_ble_eq_true rfl, Nat.le_of_ble_eq_true rfl⟩ rfl (Nat.le_of_ble_eq_true rfl) ?_
        rintro r K' M' P' ⟨rfl, rfl, rfl, hM'⟩
        rw [hM']
        clear hM' M'
        have w1 : Fr2 M9 (wdM M9 21 19) 21 := fr2_wd
        have wE : wdM M9 21 19 21 1 = 0 := by
          unfold wdM
          split
          · unfold cpM; rw [rwc_ne (by omega), rwc_at, up1_s, z19]; exact n0
          · rename_i hx9
            rw [z21] at hx9
            rw [rwc_ne (by omega), z21]
            omega
        have wR : ∀ j, 0 ≤ j → j < 36 → wdM M9 21 19 22 j = (itR F bd (n + 1)).2.1 j := by
          intro j h1 h2
          show _ = wdF (itR F bd n).1 (itR F bd n).2.1 (itN F bd n) j
          unfold wdM wdF
          by_cases he : (itR F bd n).1
          · rw [if_pos (by rw [z21, d5]; exact c4 he), if_pos he]
            unfold cpM
            rw [rwc_at]
            unfold cpS
            rw [if_pos (by omega)]
            show M9 20 j = _
            rw [z20]; exact nb j h1 h2
          · obtain ⟨y1, y2⟩ := c5 he
            rw [if_neg (by rw [z21, d5]; omega), if_neg he, rwc_at]
            unfold zipS
            rw [if_pos (by omega)]
            show (if M9 22 j < M9 20 j then 16 else M9 22 j) = _
            rw [z22, d6, z20, y2 j h1 h2, nb j h1 h2]
        have w17 : Rp (wdM M9 21 19) 17 F := Rp_fr z17 w1 (by omega) (by omega) (by omega)
        have w14 : wdM M9 21 19 14 5 = M 14 5 + ((n + 1 : Nat) : Int) := by rw [w1 14 (by omega) (by omega), z14, d7]; omega
        have wf : FrR M (wdM M9 21 19) t i := zf.s w1 (Or.inl (by omega))
        generalize wdM M9 21 19 = M10 at *
        first | refine ev_aload dX4_goRound_121 rfl ?_ | refine ev_aloadX dX4_goRound_121 rfl ?_
        first | refine ev_aload_n dX4_goRound_123 rfl ?_ | refine ev_aloadX_n dX4_goRound_123 rfl ?_
        refine ev_getR dX4_goRound_124 fX4_29 rfl (by first | rfl | assumption) (by first | rfl | assumption) ?_
        refine ev_callv (ci := 6) (c_copy st sh_21 (by omega) M10 (Or.inl wE)) dX4_goRound_127 tX6_copy.1 kX4_44 tX6_copy.2.1 tX6_copy.2.2.1 rfl (by first | rfl | assumption) tX6_copy.2.2.2 ⟨⟨Nat.le_of_ble_eq_true rfl, Nat.le_of_ble_eq_true rfl⟩, Nat.le_of_ble_eq_true rfl, Nat.le_of_ble_eq_true rfl⟩ rfl (Nat.le_of_ble_eq_true rfl) ?_
        rintro r K' M' P' ⟨rfl, rfl, rfl, hM'⟩
        rw [hM']
        clear hM' M'
        show Ev mX4_goRound _ _ _ KK (cpM M10 (aC t) 21) PP _ _ _
        have x1 : Fr2 M10 (cpM M10 (aC t) 21) (aC t) := fr2_cp
        have x0 : cpM M10 (aC t) 21 (aC t) 1 = 0 := by unfold cpM; rw [rwc_ne (by omega), rwc_at, up1_s]; exact wE
        have xr : ∀ j, 0 ≤ j → j < 36 → cpM M10 (aC t) 21 (aC t + 1) j = (itR F bd (n + 1)).2.1 j := by
          intro j h1 h2
          unfold cpM
          rw [rwc_at]
          unfold cpS
          rw [if_pos (by omega)]
          exact wR j h1 h2
        have xm : ∀ a b, lit a → lit b → mt (cpM M10 (aC t) 21 (aC t + 1)) a b = mt (itR F bd (n + 1)).2.1 a b := fun a b ha hb => xr _ (by omega) (by omega)
        have x17 : Rp (cpM M10 (aC t) 21) 17 F := Rp_fr w17 x1 (by omega) (by omega) (by omega)
        have x14 : cpM M10 (aC t) 21 14 5 = M 14 5 + ((n + 1 : Nat) : Int) := by rw [x1 14 (by omega) (by omega)]; exact w14
        have xf : FrR M (cpM M10 (aC t) 21) t i := wf.s x1 (Or.inr (by omega))
        have x21 : cpM M10 (aC t) 21 21 1 = 0 := by rw [x1 21 (by omega) (by omega)]; exact wE
        have x22 : ∀ j, 0 ≤ j → j < 36 → cpM M10 (aC t) 21 22 j = (itR F bd (n + 1)).2.1 j := by rw [x1 22 (by omega) (by omega)]; exact wR
        generalize cpM M10 (aC t) 21 = M11 at *
        have xb : bdd 100 (M11 (aC t + 1)) := fun j h1 h2 => by rw [xr j h1 h2]; have := i5.2.2 j h1 h2; omega
        first | refine ev_aload dX4_goRound_130 rfl ?_ | refine ev_aloadX dX4_goRound_130 rfl ?_
        refine ev_callv (ci := 6) (c_close st M11 xb (Or.inl x0)) dX4_goRound_132 tX6_close.1 kX4_77 tX6_close.2.1 tX6_close.2.2.1 rfl (by first | rfl | assumption) tX6_close.2.2.2 ⟨⟨Nat.le_of_ble_eq_true rfl, Nat.le_of_ble_eq_true rfl⟩, Nat.le_of_ble_eq_true rfl, Nat.le_of_ble_eq_true rfl⟩ rfl (Nat.le_of_ble_eq_true rfl) ?_
        rintro r K' M' P' ⟨rfl, rfl, rfl, hM'⟩
        rw [hM']
        clear hM' M'
        have v1 : Fr2 M11 (clM M11 (aC t)) (aC t) := fr2_cl
        have v2 : Rp (clM M11 (aC t)) (aC t) (itT F bd (n + 1)) := by
          have := close_Rp x0 (fun a b ha hb => by rw [xm a b ha hb, xm b a hb ha]; exact i5.1 a b ha hb) (fun a ha => by rw [xm a _ ha (nx_lit ha), i5.2.1 a ha]; omega) (fun a ha => by rw [xm a a ha ha]; exact (i5.2.2 (a * 6 + a) (by omega) (by omega)).2) xb
          have e : byB (M11 (aC t + 1)) = itT F bd (n + 1) := by
            rw [i4]
            funext p
            refine propext ⟨fun z => ⟨z.1, fun a b ha hb => by rw [← xm a b ha hb]; exact z.2 a b ha hb⟩, fun z => ⟨z.1, fun a b ha hb => by rw [xm a b ha hb]; exact z.2 a b ha hb⟩⟩
          rw [e] at this
          exact this
        refine ev_iinc dX4_goRound_135 rfl (by decide) ?_
        refine ev_goto (tgt := 37) dX4_goRound_138 (by decide) ?_
        refine ev_to (hP (clM M11 (aC t)) v2 ?_ ?_ (fun z => z.elim) (fun _ => ⟨?_, ?_⟩) ?_ ?_) ⟨rfl, rfl, rfl, rfl, rfl, rfl, rfl, trivial⟩ rfl rfl rfl rfl
        · exact Rp_fr x17 v1 (by omega) (by omega) (by omega)
        · rw [v1 22 (by omega) (by omega)]
          intro j h1 h2
          rw [x22 j h1 h2]
          have := i5.2.2 j h1 h2
          omega
        · rw [v1 21 (by omega) (by omega)]; exact x21
        · rw [v1 22 (by omega) (by omega)]; exact x22
        · rw [v1 14 (by omega) (by omega)]; exact x14
        · exact xf.s v1 (Or.inr (by omega))
      · omega
  refine ev_to (go M2 b3 b6 b1.1 ?_ ?_ (by rw [b5]; simp) b4) ⟨rfl, rfl, rfl, rfl, rfl, rfl, rfl, trivial⟩ rfl rfl rfl rfl
  · intro he
    rcases b1.2 with h | ⟨q1, q2, q3, q4⟩
    · exact h.1
    · obtain ⟨p, hp⟩ := tc_ne q2 q3
      exact absurd ((q4 p).mpr hp) (he p)
  · intro he
    rcases b1.2 with h | ⟨q1, q2, q3, q4⟩
    · exact absurd h.2 he
    · refine ⟨q1, fun j h1 h2 => ?_⟩
      have e : F = byB (M2 22) := funext fun p => propext (q4 p)
      show M2 22 j = bnF F j
      rw [e, bnF_tc q2 q3 h1 h2]
