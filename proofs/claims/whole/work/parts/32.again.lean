/-! ===== SumBounds.runAgain ===== -/
/-- what a run changes: Run's rounds, counts, shapes; the sizes of the racks -/
def FrA (M M' : Mm) : Prop := (∀ j, j ≠ 5 → M' 14 j = M 14 j) ∧ ∀ q, q ≠ 14 → q ≠ 16 → q ≠ 39 → ¬ (17 ≤ q ∧ q ≤ 36) → M' q = M q
/-- Run holds the run of the program that stands in Steps -/
def RunOK (M : Mm) (n : Nat) : Prop := ∃ A r, prun (M 10) (M 11) (M 12) (M 13) n A r ∧ M 14 5 = r ∧ (0 ≤ r ∧ r ≤ 240) ∧ ∀ q, q ≤ n → Rp M (aC q) (A q)
theorem fill_Rp {M : Mm} : Rp (rwc (rwc M 23 (up1 (M 23) 1 0)) 24 (fillF (M 24))) 23 (fun p => inP p) := by
  obtain ⟨t1, t2, t3⟩ := full_ok
  have base : Rp (fun q j => if q = 24 then fullF j else 0) 23 (fun p => inP p) := by
    refine ⟨fun j h1 h2 => ?_, Or.inr ⟨rfl, t1, t2, fun p => by rw [t3]; exact Iff.rfl⟩⟩
    show -80000 ≤ fullF j ∧ fullF j ≤ 80000
    unfold fullF
    split <;> omega
  refine Rp_cg base ?_ (fun j h1 h2 => ?_)
  · rw [rwc_ne (by decide), rwc_at, up1_s]; rfl
  · show rwc (rwc M 23 (up1 (M 23) 1 0)) 24 (fillF (M 24)) 24 j = fullF j
    rw [rwc_at]
    unfold fillF fullF
    rw [if_pos (by omega)]
theorem c_runAgain {n : Nat} (hn : n ≤ 6) (M : Mm) (hs : M 9 4 = n) (hp : prOK (M 10) (M 11) (M 12) (M 13) n) : Cm mX8_runAgain [vR 0] M (fun r M' => r = none ∧ RunOK M' n ∧ (∀ j, 0 ≤ j → j < 7 → M' 16 j = -1) ∧ (∀ j, 0 ≤ j → j < 5 → M' 39 j = 0) ∧ FrA M M') := by
  refine cm_of (by decide +kernel) (fun _ => trivial) (Nat.le_of_ble_eq_true rfl) ?_
  first | refine ev_aload_n dX8_runAgain_0 rfl ?_ | refine ev_aloadX_n dX8_runAgain_0 rfl ?_
  refine ev_getR dX8_runAgain_1 fX8_40 rfl (by first | rfl | assumption) (by first | rfl | assumption) ?_
  refine ev_callv (ci := 2) (c_clear M) dX8_runAgain_4 tX2_clear.1 kX8_289 tX2_clear.2.1 tX2_clear.2.2.1 rfl (by first | rfl | assumption) tX2_clear.2.2.2 ⟨⟨Nat.le_of_ble_eq_true rfl, Nat.le_of_ble_eq_true rfl⟩, Nat.le_of_ble_eq_true rfl, Nat.le_of_ble_eq_true rfl⟩ rfl (Nat.le_of_ble_eq_true rfl) ?_
  rintro r K' M' P' ⟨rfl, rfl, rfl, hM'⟩
  rw [hM']
  clear hM' M'
  first | refine ev_aload_n dX8_runAgain_7 rfl ?_ | refine ev_aloadX_n dX8_runAgain_7 rfl ?_
  refine ev_getR dX8_runAgain_8 fX8_33 rfl (by first | rfl | assumption) (by first | rfl | assumption) ?_
  refine ev_callv (ci := 4) (c_begin _) dX8_runAgain_11 tX4_begin.1 kX8_292 tX4_begin.2.1 tX4_begin.2.2.1 rfl (by first | rfl | assumption) tX4_begin.2.2.2 ⟨⟨Nat.le_of_ble_eq_true rfl, Nat.le_of_ble_eq_true rfl⟩, Nat.le_of_ble_eq_true rfl, Nat.le_of_ble_eq_true rfl⟩ rfl (Nat.le_of_ble_eq_true rfl) ?_
  rintro r K' M' P' ⟨rfl, rfl, rfl, hM'⟩
  rw [hM']
  clear hM' M'
  have e39 : ∀ j, 0 ≤ j → j < 5 → rwc M 39 (fillS 0 (M 39) 5) 39 j = 0 := by
    intro j h1 h2
    rw [rwc_at]; unfold fillS; rw [if_pos (by omega)]
  have eM : ∀ q, q ≠ 39 → rwc M 39 (fillS 0 (M 39) 5) q = M q := fun q hq => rwc_ne hq
  generalize rwc M 39 (fillS 0 (M 39) 5) = M0 at *
  have b1 : Rp (rwc (rwc (rwc (rwc M0 14 (up1 (M0 14) 5 0)) 16 (fillS (-1) (M0 16) 7)) 23 (up1 (M0 23) 1 0)) 24 (fillF (M0 24))) (aC 0) (fun p => inP p) := by
    have := fill_Rp (M := rwc (rwc M0 14 (up1 (M0 14) 5 0)) 16 (fillS (-1) (M0 16) 7))
    rw [rwc_ne (show (23 : Nat) ≠ 16 by decide), rwc_ne (show (23 : Nat) ≠ 14 by decide), rwc_ne (show (24 : Nat) ≠ 16 by decide), rwc_ne (show (24 : Nat) ≠ 14 by decide)] at this
    exact this
  have b2 : rwc (rwc (rwc (rwc M0 14 (up1 (M0 14) 5 0)) 16 (fillS (-1) (M0 16) 7)) 23 (up1 (M0 23) 1 0)) 24 (fillF (M0 24)) 14 5 = 0 := by
    rw [rwc_ne (by decide), rwc_ne (by decide), rwc_ne (by decide), rwc_at, up1_s]
  have b3 : ∀ j, 0 ≤ j → j < 7 → rwc (rwc (rwc (rwc M0 14 (up1 (M0 14) 5 0)) 16 (fillS (-1) (M0 16) 7)) 23 (up1 (M0 23) 1 0)) 24 (fillF (M0 24)) 16 j = -1 := by
    intro j h1 h2
    rw [rwc_ne (by decide), rwc_ne (by decide), rwc_at]; unfold fillS; rw [if_pos (by omega)]
  have b4 : ∀ j, 0 ≤ j → j < 5 → rwc (rwc (rwc (rwc M0 14 (up1 (M0 14) 5 0)) 16 (fillS (-1) (M0 16) 7)) 23 (up1 (M0 23) 1 0)) 24 (fillF (M0 24)) 39 j = 0 := by
    intro j h1 h2
    rw [rwc_ne (by decide), rwc_ne (by decide), rwc_ne (by decide), rwc_ne (by decide)]; exact e39 j h1 h2
  have b5 : FrA M (rwc (rwc (rwc (rwc M0 14 (up1 (M0 14) 5 0)) 16 (fillS (-1) (M0 16) 7)) 23 (up1 (M0 23) 1 0)) 24 (fillF (M0 24))) := by
    refine ⟨fun j hj => ?_, fun q q1 q2 q3 q4 => ?_⟩
    · rw [rwc_ne (by decide), rwc_ne (by decide), rwc_ne (by decide), rwc_at, up1_n hj, eM 14 (by decide)]
    · rw [rwc_ne (by omega), rwc_ne (by omega), rwc_ne q2, rwc_ne q1, eM q q3]
  generalize rwc (rwc (rwc (rwc M0 14 (up1 (M0 14) 5 0)) 16 (fillS (-1) (M0 16) 7)) 23 (up1 (M0 23) 1 0)) 24 (fillF (M0 24)) = M1 at *
  refine ev_iconst dX8_runAgain_14 ?_
  refine ev_istore_n dX8_runAgain_15 (by decide) ?_
  have lp : ∀ M2, (∃ A r, prun (M 10) (M 11) (M 12) (M 13) 0 A r ∧ M2 14 5 = r ∧ (0 ≤ r ∧ r ≤ 40 * ((0 : Nat) : Int)) ∧ ∀ q, q ≤ 0 → Rp M2 (aC q) (A q)) → (∀ j, 0 ≤ j → j < 7 → M2 16 j = -1) → (∀ j, 0 ≤ j → j < 5 → M2 39 j = 0) → FrA M M2 → Ev mX8_runAgain 16 [some (vR 0), some (vI ((0 : Nat) : Int))] [] KK M2 PP 0 0 (Rz mX8_runAgain (fun r M' => r = none ∧ RunOK M' n ∧ (∀ j, 0 ≤ j → j < 7 → M' 16 j = -1) ∧ (∀ j, 0 ≤ j → j < 5 → M' 39 j = 0) ∧ FrA M M')) := by
    refine up_loop (P := fun i => ∀ M2, (∃ A r, prun (M 10) (M 11) (M 12) (M 13) i A r ∧ M2 14 5 = r ∧ (0 ≤ r ∧ r ≤ 40 * (i : Int)) ∧ ∀ q, q ≤ i → Rp M2 (aC q) (A q)) → (∀ j, 0 ≤ j → j < 7 → M2 16 j = -1) → (∀ j, 0 ≤ j → j < 5 → M2 39 j = 0) → FrA M M2 → Ev mX8_runAgain 16 [some (vR 0), some (vI (i : Int))] [] KK M2 PP 0 0 (Rz mX8_runAgain _)) n ?_ ?_
    · rintro M2 ⟨A, r, c1, c2, c3, c4⟩ c5 c6 c7
      have y9 : M2 9 = M 9 := c7.2 9 (by omega) (by omega) (by omega) (by omega)
      have y0 : M2 10 = M 10 := c7.2 10 (by omega) (by omega) (by omega) (by omega)
      have y1 : M2 11 = M 11 := c7.2 11 (by omega) (by omega) (by omega) (by omega)
      have y2 : M2 12 = M 12 := c7.2 12 (by omega) (by omega) (by omega) (by omega)
      have y3 : M2 13 = M 13 := c7.2 13 (by omega) (by omega) (by omega) (by omega)
      refine ev_iload_n dX8_runAgain_16 rfl ?_
      first | refine ev_aload_n dX8_runAgain_17 rfl ?_ | refine ev_aloadX_n dX8_runAgain_17 rfl ?_
      refine ev_getR dX8_runAgain_18 fX8_26 rfl (by first | rfl | assumption) (by first | rfl | assumption) ?_
      refine ev_gI 4 dX8_runAgain_21 fX8_105 rfl (by first | rfl | assumption) rfl ?_
      rw [y9, hs]
      refine ev_icmp_ge (tgt := 82) dX8_runAgain_24 (by decide) (by omega) (by omega) (fun h => ?_) (fun h => ?_)
      · exact ev_return dX8_runAgain_82 rfl (rz ⟨rfl, ⟨A, r, by rw [y0, y1, y2, y3]; exact c1, c2, by omega, c4⟩, c5, c6, c7⟩)
      · omega
    · rintro i hi hP M2 ⟨A, r, c1, c2, c3, c4⟩ c5 c6 c7
      have y9 : M2 9 = M 9 := c7.2 9 (by omega) (by omega) (by omega) (by omega)
      have y0 : M2 10 = M 10 := c7.2 10 (by omega) (by omega) (by omega) (by omega)
      have y1 : M2 11 = M 11 := c7.2 11 (by omega) (by omega) (by omega) (by omega)
      have y2 : M2 12 = M 12 := c7.2 12 (by omega) (by omega) (by omega) (by omega)
      have y3 : M2 13 = M 13 := c7.2 13 (by omega) (by omega) (by omega) (by omega)
      have hki : inR (M 10 i) := by
        rcases hp i hi with h | h
        · exact (stOK_n4 h).2
        · have := h.1; omega
      refine ev_iload_n dX8_runAgain_16 rfl ?_
      first | refine ev_aload_n dX8_runAgain_17 rfl ?_ | refine ev_aloadX_n dX8_runAgain_17 rfl ?_
      refine ev_getR dX8_runAgain_18 fX8_26 rfl (by first | rfl | assumption) (by first | rfl | assumption) ?_
      refine ev_gI 4 dX8_runAgain_21 fX8_105 rfl (by first | rfl | assumption) rfl ?_
      rw [y9, hs]
      refine ev_icmp_ge (tgt := 82) dX8_runAgain_24 (by decide) (by omega) (by omega) (fun h => ?_) (fun h => ?_)
      · omega
      first | refine ev_aload_n dX8_runAgain_27 rfl ?_ | refine ev_aloadX_n dX8_runAgain_27 rfl ?_
      refine ev_getR dX8_runAgain_28 fX8_26 rfl (by first | rfl | assumption) (by first | rfl | assumption) ?_
      refine ev_getR dX8_runAgain_31 fX8_110 rfl (by first | rfl | assumption) (by first | rfl | assumption) ?_
      refine ev_iload_n dX8_runAgain_34 rfl ?_
      refine ev_iaload dX8_runAgain_35 (by first | rfl | assumption) (by omega) (by omega) (by decide) ?_
      refine ev_iconst dX8_runAgain_36 ?_
      rw [y0]
      refine ev_icmp_ne (tgt := 64) dX8_runAgain_37 (by decide) (by omega) (by omega) (fun hq => ?_) (fun hq => ?_)
      · have hst : stOK (M 10 i) (M 11 i) (M 12 i) (M 13 i) := by
          rcases hp i hi with h | h
          · exact h
          · exact absurd h.1 hq
        first | refine ev_aload_n dX8_runAgain_64 rfl ?_ | refine ev_aloadX_n dX8_runAgain_64 rfl ?_
        refine ev_getR dX8_runAgain_65 fX8_33 rfl (by first | rfl | assumption) (by first | rfl | assumption) ?_
        first | refine ev_aload_n dX8_runAgain_68 rfl ?_ | refine ev_aloadX_n dX8_runAgain_68 rfl ?_
        refine ev_getR dX8_runAgain_69 fX8_26 rfl (by first | rfl | assumption) (by first | rfl | assumption) ?_
        refine ev_iload_n dX8_runAgain_72 rfl ?_
        refine ev_callv (ci := 4) (c_doStep (k := i) (by omega) M2 (c4 i (Nat.le_refl i)) (by rw [y0, y1, y2, y3]; exact hst)) dX8_runAgain_73 tX4_doStep.1 kX8_299 tX4_doStep.2.1 tX4_doStep.2.2.1 rfl (by first | rfl | assumption) tX4_doStep.2.2.2 ⟨⟨Nat.le_of_ble_eq_true rfl, Nat.le_of_ble_eq_true rfl⟩, Nat.le_of_ble_eq_true rfl, Nat.le_of_ble_eq_true rfl⟩ rfl (Nat.le_of_ble_eq_true rfl) ?_
        rintro w K' M3 P' ⟨rfl, rfl, rfl, g1, g2⟩
        rw [y0, y1, y2, y3] at g1
        have hge : 25 ≤ aC (i + 1) := by unfold aC; omega
        have hle : aC (i + 1) ≤ 35 := by unfold aC; omega
        refine ev_iinc dX8_runAgain_76 rfl (by decide) ?_
        refine ev_goto (tgt := 16) dX8_runAgain_79 (by decide) ?_
        refine ev_to (hP M3 ⟨fun q => if q = i + 1 then stepS (M 10 i) (M 11 i) (M 12 i) (M 13 i) (A i) else A q, r, ⟨A, r, c1, Or.inl ⟨hq, rfl, fun q _ => rfl⟩⟩, ?_, by omega, fun q hq2 => ?_⟩ ?_ ?_ ?_) ⟨rfl, rfl, trivial⟩ rfl rfl rfl rfl
        · rw [g2 14 (by omega) (by omega)]; exact c2
        · show Rp M3 (aC q) (if q = i + 1 then _ else _)
          by_cases hc : q = i + 1
          · rw [if_pos hc, hc]; exact g1
          · rw [if_neg hc]
            have : aC q + 1 < aC (i + 1) := by unfold aC; omega
            exact Rp_fr (c4 q (by omega)) g2 (by omega) (by omega) (by omega)
        · rw [g2 16 (by omega) (by omega)]; exact c5
        · rw [g2 39 (by omega) (by omega)]; exact c6
        · exact ⟨fun j hj => by rw [g2 14 (by omega) (by omega)]; exact c7.1 j hj, fun q q1 q2 q3 q4 => by rw [g2 q (by omega) (by omega)]; exact c7.2 q q1 q2 q3 q4⟩
      · obtain ⟨t, ht, ha, hb⟩ : ∃ t : Nat, t < i ∧ M 11 i = t ∧ ∀ j : Nat, t ≤ j → j < i → stOK (M 10 j) (M 11 j) (M 12 j) (M 13 j) := by
          rcases hp i hi with h | h
          · exact absurd hq (stOK_n4 h).1
          · exact h.2
        have oT := (c4 t (by omega)).oct
        have hbo := oct_bdy (kf := M 10) (af := M 11) (bf := M 12) (zf := M 13) (Nat.le_of_lt ht) hb
        obtain ⟨N, hN1, hN⟩ := loop_ends oT hbo
        first | refine ev_aload_n dX8_runAgain_40 rfl ?_ | refine ev_aloadX_n dX8_runAgain_40 rfl ?_
        refine ev_getR dX8_runAgain_41 fX8_33 rfl (by first | rfl | assumption) (by first | rfl | assumption) ?_
        first | refine ev_aload_n dX8_runAgain_44 rfl ?_ | refine ev_aloadX_n dX8_runAgain_44 rfl ?_
        refine ev_getR dX8_runAgain_45 fX8_26 rfl (by first | rfl | assumption) (by first | rfl | assumption) ?_
        first | refine ev_aload_n dX8_runAgain_48 rfl ?_ | refine ev_aloadX_n dX8_runAgain_48 rfl ?_
        refine ev_getR dX8_runAgain_49 fX8_26 rfl (by first | rfl | assumption) (by first | rfl | assumption) ?_
        refine ev_getR dX8_runAgain_52 fX8_114 rfl (by first | rfl | assumption) (by first | rfl | assumption) ?_
        refine ev_iload_n dX8_runAgain_55 rfl ?_
        refine ev_iaload dX8_runAgain_56 (by first | rfl | assumption) (by omega) (by omega) (by decide) ?_
        refine ev_iload_n dX8_runAgain_57 rfl ?_
        rw [y1, ha]
        refine ev_callv (ci := 4) (c_goRound (t := t) (i := i) (N := N) ht (by omega) M2 (c4 t (by omega)) (by rw [y0, y1, y2, y3]; exact hb) (by rw [y0, y1, y2, y3]; exact hN) (by rw [c2]; omega) (by rw [c2]; omega)) dX8_runAgain_58 tX4_goRound.1 kX8_295 tX4_goRound.2.1 tX4_goRound.2.2.1 rfl (by first | rfl | assumption) tX4_goRound.2.2.2 ⟨⟨Nat.le_of_ble_eq_true rfl, Nat.le_of_ble_eq_true rfl⟩, Nat.le_of_ble_eq_true rfl, Nat.le_of_ble_eq_true rfl⟩ rfl (Nat.le_of_ble_eq_true rfl) ?_
        rintro w K' M3 P' ⟨rfl, rfl, rfl, g1, g2, g3, g4⟩
        rw [y0, y1, y2, y3] at g2 g3
        have at23 : 23 ≤ aC t := by unfold aC; omega
        have hle : aC (i + 1) ≤ 35 := by unfold aC; omega
        refine ev_goto (tgt := 76) dX8_runAgain_61 (by decide) ?_
        refine ev_iinc dX8_runAgain_76 rfl (by decide) ?_
        refine ev_goto (tgt := 16) dX8_runAgain_79 (by decide) ?_
        refine ev_to (hP M3 ⟨fun q => if q = i + 1 then joinS (A t) (bdy (M 10) (M 11) (M 12) (M 13) t i (itT (A t) (bdy (M 10) (M 11) (M 12) (M 13) t i) N)) else if t ≤ q then plc (M 10) (M 11) (M 12) (M 13) (joinS (A t) (bdy (M 10) (M 11) (M 12) (M 13) t i (itT (A t) (bdy (M 10) (M 11) (M 12) (M 13) t i) N))) t (q - t) else A q, r + N, ⟨A, r, c1, Or.inr ⟨hq, t, N, ht, ha, hN, rfl, fun q _ => rfl⟩⟩, ?_, by omega, fun q hq2 => ?_⟩ ?_ ?_ ?_) ⟨rfl, rfl, trivial⟩ rfl rfl rfl rfl
        · rw [g1, c2]
        · show Rp M3 (aC q) (if q = i + 1 then _ else if t ≤ q then _ else _)
          by_cases hc : q = i + 1
          · rw [if_pos hc, hc]; exact g3
          · rw [if_neg hc]
            by_cases hc2 : t ≤ q
            · rw [if_pos hc2]
              have := g2 (q - t) (by omega)
              rw [Nat.add_sub_of_le hc2] at this
              exact this
            · rw [if_neg hc2]
              have hx : aC q + 1 < aC t := by unfold aC; omega
              have hx2 : 23 ≤ aC q := by unfold aC; omega
              exact Rp_cg (c4 q (by omega)) (by rw [g4.2 (aC q) (by omega) (by omega) (by omega)]) (fun j _ _ => by rw [g4.2 (aC q + 1) (by omega) (by omega) (by omega)])
        · rw [g4.2 16 (by omega) (by omega) (by omega)]; exact c5
        · rw [g4.2 39 (by omega) (by omega) (by omega)]; exact c6
        · exact ⟨fun j hj => by rw [g4.1 j hj]; exact c7.1 j hj, fun q q1 q2 q3 q4 => by rw [g4.2 q q1 (by omega) (by omega)]; exact c7.2 q q1 q2 q3 q4⟩
  refine ev_to (lp M1 ⟨fun _ p => inP p, 0, ⟨rfl, rfl⟩, b2, by omega, fun q hq => ?_⟩ b3 b4 b5) ⟨rfl, rfl, trivial⟩ rfl rfl rfl rfl
  have : q = 0 := by omega
  rw [this]
  exact b1
