/-! ===== Steps: remove and what is asked; Page, Racks, Seen, Draws, numbers ===== -/
def dnK (f : Int → Int) (p i : Int) : Int → Int := fun j => if p ≤ j ∧ j < i then f (j + 1) else f j
def dnF (kf f : Int → Int) (p i : Int) : Int → Int := fun j => if p ≤ j ∧ j < i then f (j + 1) - bmp kf f p (j + 1) else f j
def remM (M : Mm) (c : Nat) (p : Int) : Mm := rw4 (rwc M c (up1 (M c) 4 (M c 4 - 1))) c (dnK (M (c + 1)) p (M c 4 - 1)) (dnF (M (c + 1)) (M (c + 2)) p (M c 4 - 1)) (dnK (M (c + 3)) p (M c 4 - 1)) (dnK (M (c + 4)) p (M c 4 - 1))
theorem dnK_id (f : Int → Int) (p : Int) : dnK f p p = f := by
  funext j
  unfold dnK
  rw [if_neg (by omega)]
theorem dnF_id (kf f : Int → Int) (p : Int) : dnF kf f p p = f := by
  funext j
  unfold dnF
  rw [if_neg (by omega)]
theorem dnK_s (f : Int → Int) {p i : Int} (hi : p ≤ i) : mvE (dnK f p i) (i + 1) i = dnK f p (i + 1) := by
  funext j
  unfold mvE up1 dnK
  by_cases hj : j = i
  · rw [if_pos hj, if_neg (by omega), if_pos (by omega), hj]
  · rw [if_neg hj]
    try dsimp only
    by_cases hl : p ≤ j ∧ j < i
    · rw [if_pos hl, if_pos (by omega)]
    · rw [if_neg hl, if_neg (by omega)]
theorem c_remove {c : Nat} (hs : isSt c) {p : Int} (M : Mm) (hn : M c 4 ≤ 6) (hp : 0 ≤ p) (hp2 : p < M c 4) (hR1 : ∀ j, 0 ≤ j → j < 6 → inR (M (c + 1) j)) (hR2 : ∀ j, 0 ≤ j → j < 6 → -1000 ≤ M (c + 2) j ∧ M (c + 2) j ≤ 1000) : Cm mX7_remove [vR c, vI p] M (fun r M' => r = none ∧ M' = remM M c p) := by
  obtain ⟨k0, k1, k2, k3, k4, p1, p2, p3, p4⟩ := id hs
  refine cm_of (by decide +kernel) (fun _ => trivial) (Nat.le_of_ble_eq_true rfl) ?_
  first | refine ev_aload_n dX7_remove_0 rfl ?_ | refine ev_aloadX_n dX7_remove_0 rfl ?_
  refine ev_dup dX7_remove_1 ?_
  refine ev_gI 4 dX7_remove_2 fX7_24 rfl (by first | rfl | assumption) rfl ?_
  refine ev_iconst dX7_remove_5 ?_
  refine ev_isub dX7_remove_6 ?_
  refine ev_pI 4 dX7_remove_7 sX7_24 rfl (by first | rfl | assumption) rfl ?_
  refine ev_iload_n dX7_remove_10 rfl ?_
  refine ev_istore_n dX7_remove_11 (by decide) ?_
  rw [upM_rw]
  obtain ⟨N, hN⟩ : ∃ N : Nat, M c 4 - 1 - p = N := ⟨(M c 4 - 1 - p).toNat, by omega⟩
  have z0 : rwc M c (up1 (M c) 4 (M c 4 - 1)) c 4 = M c 4 - 1 := by rw [rwc_at, up1_s]
  have z1 : rwc M c (up1 (M c) 4 (M c 4 - 1)) (c + 1) = M (c + 1) := rwc_ne (by omega)
  have z2 : rwc M c (up1 (M c) 4 (M c 4 - 1)) (c + 2) = M (c + 2) := rwc_ne (by omega)
  have z3 : rwc M c (up1 (M c) 4 (M c 4 - 1)) (c + 3) = M (c + 3) := rwc_ne (by omega)
  have z4 : rwc M c (up1 (M c) 4 (M c 4 - 1)) (c + 4) = M (c + 4) := rwc_ne (by omega)
  have hR : remM M c p = rw4 (rwc M c (up1 (M c) 4 (M c 4 - 1))) c (dnK (M (c + 1)) p (M c 4 - 1)) (dnF (M (c + 1)) (M (c + 2)) p (M c 4 - 1)) (dnK (M (c + 3)) p (M c 4 - 1)) (dnK (M (c + 4)) p (M c 4 - 1)) := rfl
  generalize rwc M c (up1 (M c) 4 (M c 4 - 1)) = N0 at *
  refine ev_to (L' := [some (vR c), some (vI p), some (vI (p + ((0 : Nat) : Int)))]) (S' := []) (M' := rw4 N0 c (dnK (M (c + 1)) p (p + ((0 : Nat) : Int))) (dnF (M (c + 1)) (M (c + 2)) p (p + ((0 : Nat) : Int))) (dnK (M (c + 3)) p (p + ((0 : Nat) : Int))) (dnK (M (c + 4)) p (p + ((0 : Nat) : Int)))) (k' := 0) (n' := 0) ?_ ⟨rfl, rfl, ?_, trivial⟩ ?_ rfl rfl rfl
  · refine up_loop (P := fun t => Ev mX7_remove 12 [some (vR c), some (vI p), some (vI (p + (t : Int)))] [] KK (rw4 N0 c (dnK (M (c + 1)) p (p + (t : Int))) (dnF (M (c + 1)) (M (c + 2)) p (p + (t : Int))) (dnK (M (c + 3)) p (p + (t : Int))) (dnK (M (c + 4)) p (p + (t : Int)))) PP 0 0 _) N ?_ ?_
    · have e : p + (N : Int) = M c 4 - 1 := by omega
      rw [e]
      refine ev_iload_n dX7_remove_12 rfl ?_
      first | refine ev_aload_n dX7_remove_13 rfl ?_ | refine ev_aloadX_n dX7_remove_13 rfl ?_
      refine ev_gI 4 dX7_remove_14 fX7_24 rfl (by first | rfl | assumption) rfl ?_
      rw [rw4_0, z0]
      refine ev_icmp_ge (tgt := 64) dX7_remove_17 (by decide) (by omega) (by omega) (fun h => ?_) (fun h => ?_)
      · exact ev_return dX7_remove_64 rfl (rz ⟨rfl, hR.symm⟩)
      · omega
    · intro t ht hP
      have ei : p + ((t + 1 : Nat) : Int) = p + (t : Int) + 1 := by omega
      rw [ei] at hP
      generalize hi : p + (t : Int) = i at hP ⊢
      have hi1 : p ≤ i := by omega
      have hi2 : i < M c 4 - 1 := by omega
      have s1 := dnK_s (M (c + 1)) hi1
      have s3 := dnK_s (M (c + 3)) hi1
      have s4 := dnK_s (M (c + 4)) hi1
      have v1 : dnK (M (c + 1)) p (i + 1) i = M (c + 1) (i + 1) := by unfold dnK; rw [if_pos (by omega)]
      have v2 : mvE (dnF (M (c + 1)) (M (c + 2)) p i) (i + 1) i i = M (c + 2) (i + 1) := by unfold mvE; rw [up1_s]; unfold dnF; rw [if_neg (by omega)]
      have b1 := hR1 (i + 1) (by omega) (by omega)
      have b2 := hR2 (i + 1) (by omega) (by omega)
      have fE : ∀ w, w = bmp (M (c + 1)) (M (c + 2)) p (i + 1) → up1 (mvE (dnF (M (c + 1)) (M (c + 2)) p i) (i + 1) i) i (M (c + 2) (i + 1) - w) = dnF (M (c + 1)) (M (c + 2)) p (i + 1) := by
        intro w hw
        funext j
        unfold mvE up1
        by_cases hj : j = i
        · rw [if_pos hj, hj]
          unfold dnF
          rw [if_pos (by omega), hw]
        · rw [if_neg hj]
          try dsimp only
          rw [if_neg hj]
          unfold dnF
          by_cases hl : p ≤ j ∧ j < i
          · rw [if_pos hl, if_pos (by omega)]
          · rw [if_neg hl, if_neg (by omega)]
      refine ev_iload_n dX7_remove_12 rfl ?_
      first | refine ev_aload_n dX7_remove_13 rfl ?_ | refine ev_aloadX_n dX7_remove_13 rfl ?_
      refine ev_gI 4 dX7_remove_14 fX7_24 rfl (by first | rfl | assumption) rfl ?_
      rw [rw4_0, z0]
      refine ev_icmp_ge (tgt := 64) dX7_remove_17 (by decide) (by omega) (by omega) (fun h => ?_) (fun h => ?_)
      · omega
      first | refine ev_aload_n dX7_remove_20 rfl ?_ | refine ev_aloadX_n dX7_remove_20 rfl ?_
      refine ev_iload_n dX7_remove_21 rfl ?_
      refine ev_iconst dX7_remove_22 ?_
      refine ev_iadd dX7_remove_23 ?_
      refine ev_iload_n dX7_remove_24 rfl ?_
      refine ev_callv (ci := 7) (c_copyStep hs (by omega) (by omega) (by omega) (by omega) _) dX7_remove_25 tX7_copyStep.1 kX7_34 tX7_copyStep.2.1 tX7_copyStep.2.2.1 rfl (by first | rfl | assumption) tX7_copyStep.2.2.2 ⟨⟨Nat.le_of_ble_eq_true rfl, Nat.le_of_ble_eq_true rfl⟩, Nat.le_of_ble_eq_true rfl, Nat.le_of_ble_eq_true rfl⟩ rfl (Nat.le_of_ble_eq_true rfl) ?_
      rintro r K' M' P' ⟨rfl, rfl, rfl, hM'⟩
      rw [hM']
      clear hM' M'
      rw [rw4_1, rw4_2, rw4_3, rw4_4, rw4_rw4, s1, s3, s4]
      have fin : ∀ w, w = bmp (M (c + 1)) (M (c + 2)) p (i + 1) → Ev mX7_remove 58 [some (vR c), some (vI p), some (vI i)] [] KK (rw4 N0 c (dnK (M (c + 1)) p (i + 1)) (up1 (mvE (dnF (M (c + 1)) (M (c + 2)) p i) (i + 1) i) i (M (c + 2) (i + 1) - w)) (dnK (M (c + 3)) p (i + 1)) (dnK (M (c + 4)) p (i + 1))) PP 0 0 (Rz mX7_remove (fun r M' => r = none ∧ M' = remM M c p)) := by
        intro w hw
        rw [fE w hw]
        refine ev_iinc dX7_remove_58 rfl (by decide) ?_
        refine ev_goto (tgt := 12) dX7_remove_61 (by decide) ?_
        exact ev_to hP ⟨rfl, rfl, rfl, trivial⟩ rfl rfl rfl rfl
      have fin0 : ¬ (M (c + 1) (i + 1) = 4 ∧ p < M (c + 2) (i + 1)) → Ev mX7_remove 58 [some (vR c), some (vI p), some (vI i)] [] KK (rw4 N0 c (dnK (M (c + 1)) p (i + 1)) (mvE (dnF (M (c + 1)) (M (c + 2)) p i) (i + 1) i) (dnK (M (c + 3)) p (i + 1)) (dnK (M (c + 4)) p (i + 1))) PP 0 0 (Rz mX7_remove (fun r M' => r = none ∧ M' = remM M c p)) := by
        intro hq
        have := fin 0 (by rw [bmp, if_neg hq])
        rw [Int.sub_zero, ← v2, up1_id] at this
        exact this
      first | refine ev_aload_n dX7_remove_28 rfl ?_ | refine ev_aloadX_n dX7_remove_28 rfl ?_
      refine ev_getR dX7_remove_29 fX7_9 rfl (by first | rfl | assumption) (by first | rfl | assumption) ?_
      refine ev_iload_n dX7_remove_32 rfl ?_
      refine ev_iaload dX7_remove_33 (by first | rfl | assumption) (by omega) (by omega) (by decide) ?_
      refine ev_iconst dX7_remove_34 ?_
      rw [rw4_1, v1]
      refine ev_icmp_ne (tgt := 58) dX7_remove_35 (by decide) (by omega) (by omega) (fun hq1 => ?_) (fun hq1 => ?_)
      · exact fin0 (fun z => hq1 z.1)
      first | refine ev_aload_n dX7_remove_38 rfl ?_ | refine ev_aloadX_n dX7_remove_38 rfl ?_
      refine ev_getR dX7_remove_39 fX7_15 rfl (by first | rfl | assumption) (by first | rfl | assumption) ?_
      refine ev_iload_n dX7_remove_42 rfl ?_
      refine ev_iaload dX7_remove_43 (by first | rfl | assumption) (by omega) (by omega) (by decide) ?_
      refine ev_iload_n dX7_remove_44 rfl ?_
      rw [rw4_2, v2]
      refine ev_icmp_le (tgt := 58) dX7_remove_45 (by decide) (by omega) (by omega) (fun hq2 => ?_) (fun hq2 => ?_)
      · exact fin0 (fun z => by have := z.2; omega)
      first | refine ev_aload_n dX7_remove_48 rfl ?_ | refine ev_aloadX_n dX7_remove_48 rfl ?_
      refine ev_getR dX7_remove_49 fX7_15 rfl (by first | rfl | assumption) (by first | rfl | assumption) ?_
      refine ev_iload_n dX7_remove_52 rfl ?_
      refine ev_dup2 dX7_remove_53 ?_
      refine ev_iaload dX7_remove_54 (by first | rfl | assumption) (by omega) (by omega) (by decide) ?_
      refine ev_iconst dX7_remove_55 ?_
      refine ev_isub dX7_remove_56 ?_
      refine ev_iastore dX7_remove_57 (by first | rfl | assumption) (by omega) (by omega) (by decide) ?_
      rw [rw4_2, v2, upM_rw, rw4_2]
      refine ev_to (fin 1 (by rw [bmp, if_pos ⟨hq1, hq2⟩])) ⟨rfl, rfl, rfl, trivial⟩ ?_ rfl rfl rfl
      generalize up1 (mvE (dnF (M (c + 1)) (M (c + 2)) p i) (i + 1) i) i (M (c + 2) (i + 1) - 1) = G
      unfold rw4
      rw [rwc_comm (show c + 4 ≠ c + 2 by omega), rwc_comm (show c + 3 ≠ c + 2 by omega), rwc_rwc]
  · show some (some (vI p)) = some (some (vI (p + 0)))
    rw [Int.add_zero]
  · have e : p + ((0 : Nat) : Int) = p := by omega
    rw [e, dnK_id, dnF_id, dnK_id, dnK_id, ← z1, ← z2, ← z3, ← z4, rw4_self]
theorem c_isAll {c : Nat} (hs : isSt c) {p : Int} (M : Mm) (hn : M c 4 ≤ 6) (hp : 0 ≤ p) (hp2 : p < M c 4) (hR1 : ∀ j, 0 ≤ j → j < 6 → inR (M (c + 1) j)) (hR2 : ∀ j, 0 ≤ j → j < 6 → inR (M (c + 2) j)) : Cm mX7_isAllOfALoop [vR c, vI p] M (fun r M' => yn (p + 1 < M c 4 ∧ M (c + 1) (p + 1) = 4 ∧ M (c + 2) (p + 1) = p) r ∧ M' = M) := by
  obtain ⟨k0, k1, k2, k3, k4, p1, p2, p3, p4⟩ := id hs
  refine cm_of (by decide +kernel) (fun _ => trivial) (Nat.le_of_ble_eq_true rfl) ?_
  have no : ¬ (p + 1 < M c 4 ∧ M (c + 1) (p + 1) = 4 ∧ M (c + 2) (p + 1) = p) → Ev mX7_isAllOfALoop 36 [some (vR c), some (vI p), some (vI (p + 1))] [] KK M PP 0 0 (Rz mX7_isAllOfALoop (fun r M' => yn (p + 1 < M c 4 ∧ M (c + 1) (p + 1) = 4 ∧ M (c + 2) (p + 1) = p) r ∧ M' = M)) := by
    intro h
    refine ev_iconst dX7_isAllOfALoop_36 ?_
    exact ev_ireturn dX7_isAllOfALoop_37 (okR_z rfl (by first | exact Or.inl rfl | exact Or.inr rfl | assumption)) (rz ⟨yn_0 h, rfl⟩)
  refine ev_iload_n dX7_isAllOfALoop_0 rfl ?_
  refine ev_iconst dX7_isAllOfALoop_1 ?_
  refine ev_iadd dX7_isAllOfALoop_2 ?_
  refine ev_istore_n dX7_isAllOfALoop_3 (by decide) ?_
  refine ev_iload_n dX7_isAllOfALoop_4 rfl ?_
  first | refine ev_aload_n dX7_isAllOfALoop_5 rfl ?_ | refine ev_aloadX_n dX7_isAllOfALoop_5 rfl ?_
  refine ev_gI 4 dX7_isAllOfALoop_6 fX7_24 rfl (by first | rfl | assumption) rfl ?_
  refine ev_icmp_ge (tgt := 36) dX7_isAllOfALoop_9 (by decide) (by omega) (by omega) (fun h1 => ?_) (fun h1 => ?_)
  · exact no (fun z => by have := z.1; omega)
  have b1 := hR1 (p + 1) (by omega) (by omega)
  have b2 := hR2 (p + 1) (by omega) (by omega)
  first | refine ev_aload_n dX7_isAllOfALoop_12 rfl ?_ | refine ev_aloadX_n dX7_isAllOfALoop_12 rfl ?_
  refine ev_getR dX7_isAllOfALoop_13 fX7_9 rfl (by first | rfl | assumption) (by first | rfl | assumption) ?_
  refine ev_iload_n dX7_isAllOfALoop_16 rfl ?_
  refine ev_iaload dX7_isAllOfALoop_17 (by first | rfl | assumption) (by omega) (by omega) (by decide) ?_
  refine ev_iconst dX7_isAllOfALoop_18 ?_
  refine ev_icmp_ne (tgt := 36) dX7_isAllOfALoop_19 (by decide) (by omega) (by omega) (fun h2 => ?_) (fun h2 => ?_)
  · exact no (fun z => h2 z.2.1)
  first | refine ev_aload_n dX7_isAllOfALoop_22 rfl ?_ | refine ev_aloadX_n dX7_isAllOfALoop_22 rfl ?_
  refine ev_getR dX7_isAllOfALoop_23 fX7_15 rfl (by first | rfl | assumption) (by first | rfl | assumption) ?_
  refine ev_iload_n dX7_isAllOfALoop_26 rfl ?_
  refine ev_iaload dX7_isAllOfALoop_27 (by first | rfl | assumption) (by omega) (by omega) (by decide) ?_
  refine ev_iload_n dX7_isAllOfALoop_28 rfl ?_
  refine ev_icmp_ne (tgt := 36) dX7_isAllOfALoop_29 (by decide) (by omega) (by omega) (fun h3 => ?_) (fun h3 => ?_)
  · exact no (fun z => h3 z.2.2)
  refine ev_iconst dX7_isAllOfALoop_32 ?_
  refine ev_goto (tgt := 37) dX7_isAllOfALoop_33 (by decide) ?_
  exact ev_ireturn dX7_isAllOfALoop_37 (okR_z rfl (by first | exact Or.inl rfl | exact Or.inr rfl | assumption)) (rz ⟨yn_1 ⟨h1, h2, h3⟩, rfl⟩)
/-- behind the last loop among the first i -/
def bll (kf : Int → Int) : Nat → Int
  | 0 => 0
  | i + 1 => if kf i = 4 then (i : Int) + 1 else bll kf i
def nlp (kf : Int → Int) : Nat → Int
  | 0 => 0
  | i + 1 => nlp kf i + (if kf i = 4 then 1 else 0)
theorem nlp_bd (kf : Int → Int) (i : Nat) : 0 ≤ nlp kf i ∧ nlp kf i ≤ i := by
  induction i with
  | zero => simp [nlp]
  | succ i ih => simp only [nlp]; split <;> omega
theorem bll_bd (kf : Int → Int) (i : Nat) : 0 ≤ bll kf i ∧ bll kf i ≤ i := by
  induction i with
  | zero => simp [bll]
  | succ i ih => simp only [bll]; split <;> omega
theorem c_behind {c : Nat} (hs : isSt c) (M : Mm) {N : Nat} (hN : M c 4 = N) (hn : N ≤ 6) (hR1 : ∀ j, 0 ≤ j → j < 6 → inR (M (c + 1) j)) : Cm mX7_behindLastLoop [vR c] M (fun r M' => r = some (vI (bll (M (c + 1)) N)) ∧ M' = M) := by
  obtain ⟨k0, k1, k2, k3, k4, p1, p2, p3, p4⟩ := id hs
  refine cm_of (by decide +kernel) (fun _ => trivial) (Nat.le_of_ble_eq_true rfl) ?_
  refine ev_iconst dX7_behindLastLoop_0 ?_
  refine ev_istore_n dX7_behindLastLoop_1 (by decide) ?_
  refine ev_iconst dX7_behindLastLoop_2 ?_
  refine ev_istore_n dX7_behindLastLoop_3 (by decide) ?_
  refine ev_to (L' := [some (vR c), some (vI (bll (M (c + 1)) 0)), some (vI ((0 : Nat) : Int))]) (S' := []) (M' := M) (k' := 0) (n' := 0) ?_ ⟨rfl, rfl, rfl, trivial⟩ rfl rfl rfl rfl
  refine up_loop (P := fun i => Ev mX7_behindLastLoop 4 [some (vR c), some (vI (bll (M (c + 1)) i)), some (vI (i : Int))] [] KK M PP 0 0 _) N ?_ ?_
  · refine ev_iload_n dX7_behindLastLoop_4 rfl ?_
    first | refine ev_aload_n dX7_behindLastLoop_5 rfl ?_ | refine ev_aloadX_n dX7_behindLastLoop_5 rfl ?_
    refine ev_gI 4 dX7_behindLastLoop_6 fX7_24 rfl (by first | rfl | assumption) rfl ?_
    refine ev_icmp_ge (tgt := 32) dX7_behindLastLoop_9 (by decide) (by omega) (by omega) (fun h => ?_) (fun h => ?_)
    · refine ev_iload_n dX7_behindLastLoop_32 rfl ?_
      exact ev_ireturn dX7_behindLastLoop_33 ⟨_, rfl, rfl⟩ (rz ⟨rfl, rfl⟩)
    · omega
  · intro i hi hP
    have b1 := hR1 (i : Int) (by omega) (by omega)
    simp only [bll] at hP
    refine ev_iload_n dX7_behindLastLoop_4 rfl ?_
    first | refine ev_aload_n dX7_behindLastLoop_5 rfl ?_ | refine ev_aloadX_n dX7_behindLastLoop_5 rfl ?_
    refine ev_gI 4 dX7_behindLastLoop_6 fX7_24 rfl (by first | rfl | assumption) rfl ?_
    refine ev_icmp_ge (tgt := 32) dX7_behindLastLoop_9 (by decide) (by omega) (by omega) (fun h => ?_) (fun h => ?_)
    · omega
    first | refine ev_aload_n dX7_behindLastLoop_12 rfl ?_ | refine ev_aloadX_n dX7_behindLastLoop_12 rfl ?_
    refine ev_getR dX7_behindLastLoop_13 fX7_9 rfl (by first | rfl | assumption) (by first | rfl | assumption) ?_
    refine ev_iload_n dX7_behindLastLoop_16 rfl ?_
    refine ev_iaload dX7_behindLastLoop_17 (by first | rfl | assumption) (by omega) (by omega) (by decide) ?_
    refine ev_iconst dX7_behindLastLoop_18 ?_
    refine ev_icmp_ne (tgt := 26) dX7_behindLastLoop_19 (by decide) (by omega) (by omega) (fun hq => ?_) (fun hq => ?_)
    · rw [if_neg hq] at hP
      refine ev_iinc dX7_behindLastLoop_26 rfl (by decide) ?_
      refine ev_goto (tgt := 4) dX7_behindLastLoop_29 (by decide) ?_
      exact ev_to hP ⟨rfl, rfl, rfl, trivial⟩ rfl rfl rfl rfl
    · rw [if_pos hq] at hP
      refine ev_iload_n dX7_behindLastLoop_22 rfl ?_
      refine ev_iconst dX7_behindLastLoop_23 ?_
      refine ev_iadd dX7_behindLastLoop_24 ?_
      refine ev_istore_n dX7_behindLastLoop_25 (by decide) ?_
      refine ev_iinc dX7_behindLastLoop_26 rfl (by decide) ?_
      refine ev_goto (tgt := 4) dX7_behindLastLoop_29 (by decide) ?_
      exact ev_to hP ⟨rfl, rfl, rfl, trivial⟩ rfl rfl rfl rfl
theorem c_countLoops {c : Nat} (hs : isSt c) (M : Mm) {N : Nat} (hN : M c 4 = N) (hn : N ≤ 6) (hR1 : ∀ j, 0 ≤ j → j < 6 → inR (M (c + 1) j)) : Cm mX7_countLoops [vR c] M (fun r M' => r = some (vI (nlp (M (c + 1)) N)) ∧ M' = M) := by
  obtain ⟨k0, k1, k2, k3, k4, p1, p2, p3, p4⟩ := id hs
  refine cm_of (by decide +kernel) (fun _ => trivial) (Nat.le_of_ble_eq_true rfl) ?_
  refine ev_iconst dX7_countLoops_0 ?_
  refine ev_istore_n dX7_countLoops_1 (by decide) ?_
  refine ev_iconst dX7_countLoops_2 ?_
  refine ev_istore_n dX7_countLoops_3 (by decide) ?_
  refine ev_to (L' := [some (vR c), some (vI (nlp (M (c + 1)) 0)), some (vI ((0 : Nat) : Int))]) (S' := []) (M' := M) (k' := 0) (n' := 0) ?_ ⟨rfl, rfl, rfl, trivial⟩ rfl rfl rfl rfl
  refine up_loop (P := fun i => Ev mX7_countLoops 4 [some (vR c), some (vI (nlp (M (c + 1)) i)), some (vI (i : Int))] [] KK M PP 0 0 _) N ?_ ?_
  · refine ev_iload_n dX7_countLoops_4 rfl ?_
    first | refine ev_aload_n dX7_countLoops_5 rfl ?_ | refine ev_aloadX_n dX7_countLoops_5 rfl ?_
    refine ev_gI 4 dX7_countLoops_6 fX7_24 rfl (by first | rfl | assumption) rfl ?_
    refine ev_icmp_ge (tgt := 31) dX7_countLoops_9 (by decide) (by omega) (by omega) (fun h => ?_) (fun h => ?_)
    · refine ev_iload_n dX7_countLoops_31 rfl ?_
      exact ev_ireturn dX7_countLoops_32 ⟨_, rfl, rfl⟩ (rz ⟨rfl, rfl⟩)
    · omega
  · intro i hi hP
    have b1 := hR1 (i : Int) (by omega) (by omega)
    simp only [nlp] at hP
    refine ev_iload_n dX7_countLoops_4 rfl ?_
    first | refine ev_aload_n dX7_countLoops_5 rfl ?_ | refine ev_aloadX_n dX7_countLoops_5 rfl ?_
    refine ev_gI 4 dX7_countLoops_6 fX7_24 rfl (by first | rfl | assumption) rfl ?_
    refine ev_icmp_ge (tgt := 31) dX7_countLoops_9 (by decide) (by omega) (by omega) (fun h => ?_) (fun h => ?_)
    · omega
    first | refine ev_aload_n dX7_countLoops_12 rfl ?_ | refine ev_aloadX_n dX7_countLoops_12 rfl ?_
    refine ev_getR dX7_countLoops_13 fX7_9 rfl (by first | rfl | assumption) (by first | rfl | assumption) ?_
    refine ev_iload_n dX7_countLoops_16 rfl ?_
    refine ev_iaload dX7_countLoops_17 (by first | rfl | assumption) (by omega) (by omega) (by decide) ?_
    refine ev_iconst dX7_countLoops_18 ?_
    refine ev_icmp_ne (tgt := 25) dX7_countLoops_19 (by decide) (by omega) (by omega) (fun hq => ?_) (fun hq => ?_)
    · rw [if_neg hq, Int.add_zero] at hP
      refine ev_iinc dX7_countLoops_25 rfl (by decide) ?_
      refine ev_goto (tgt := 4) dX7_countLoops_28 (by decide) ?_
      exact ev_to hP ⟨rfl, rfl, rfl, trivial⟩ rfl rfl rfl rfl
    · rw [if_pos hq] at hP
      refine ev_iinc dX7_countLoops_22 rfl (by decide) ?_
      refine ev_iinc dX7_countLoops_25 rfl (by decide) ?_
      refine ev_goto (tgt := 4) dX7_countLoops_28 (by decide) ?_
      exact ev_to hP ⟨rfl, rfl, rfl, trivial⟩ rfl rfl rfl rfl
theorem c_pgAppend {z : Int} (M : Mm) (h0 : 0 ≤ M 1 1) (h1 : M 1 1 < 36) : Cm mX1_append [vR 1, vI z] M (fun r M' => r = none ∧ M' = rwc (rwc M 2 (up1 (M 2) (M 1 1) z)) 1 (up1 (M 1) 1 (M 1 1 + 1))) := by
  refine cm_of (by decide +kernel) (fun _ => trivial) (Nat.le_of_ble_eq_true rfl) ?_
  first | refine ev_aload_n dX1_append_0 rfl ?_ | refine ev_aloadX_n dX1_append_0 rfl ?_
  refine ev_getR dX1_append_1 fX1_9 rfl (by first | rfl | assumption) (by first | rfl | assumption) ?_
  first | refine ev_aload_n dX1_append_4 rfl ?_ | refine ev_aloadX_n dX1_append_4 rfl ?_
  refine ev_gI 1 dX1_append_5 fX1_15 rfl (by first | rfl | assumption) rfl ?_
  refine ev_iload_n dX1_append_8 rfl ?_
  refine ev_iastore dX1_append_9 (by first | rfl | assumption) (by omega) (by omega) (by decide) ?_
  first | refine ev_aload_n dX1_append_10 rfl ?_ | refine ev_aloadX_n dX1_append_10 rfl ?_
  refine ev_dup dX1_append_11 ?_
  refine ev_gI 1 dX1_append_12 fX1_15 rfl (by first | rfl | assumption) rfl ?_
  refine ev_iconst dX1_append_15 ?_
  refine ev_iadd dX1_append_16 ?_
  refine ev_pI 1 dX1_append_17 sX1_15 rfl (by first | rfl | assumption) rfl ?_
  refine ev_return dX1_append_20 rfl (rz ⟨rfl, ?_⟩)
  rw [upM_rw, upM_rw, rwc_ne (show (1 : Nat) ≠ 2 by decide)]
theorem c_clear (M : Mm) : Cm mX2_clear [vR 37] M (fun r M' => r = none ∧ M' = rwc M 39 (fillS 0 (M 39) 5)) := by
  refine cm_of (by decide +kernel) (fun _ => trivial) (Nat.le_of_ble_eq_true rfl) ?_
  first | refine ev_aload_n dX2_clear_0 rfl ?_ | refine ev_aloadX_n dX2_clear_0 rfl ?_
  refine ev_getR dX2_clear_1 fX2_15 rfl (by first | rfl | assumption) (by first | rfl | assumption) ?_
  refine ev_iconst dX2_clear_4 ?_
  refine ev_calls (c_afill (c := 39) (N := 5) rfl (by decide) _) dX2_clear_5 tJ7_fill_53178.1 kX2_18 tJ7_fill_53178.2.1 tJ7_fill_53178.2.2 ⟨⟨Nat.le_of_ble_eq_true rfl, Nat.le_of_ble_eq_true rfl⟩, Nat.le_of_ble_eq_true rfl, Nat.le_of_ble_eq_true rfl⟩ rfl (Nat.le_of_ble_eq_true rfl) ?_
  rintro r K' M' P' ⟨rfl, rfl, rfl, hM'⟩
  rw [hM']
  clear hM' M'
  exact ev_return dX2_clear_8 rfl (rz ⟨rfl, rfl⟩)
theorem c_lay {kd st : Int} (M : Mm) (h0 : 0 ≤ kd) (h1 : kd < 5) (h2 : 0 ≤ M 39 kd) (h3 : M 39 kd < 3) : Cm mX2_lay [vR 37, vI kd, vI st] M (fun r M' => r = some (vI (M 39 kd + 1)) ∧ M' = rwc (rwc M 38 (up1 (M 38) (kd * 3 + M 39 kd) st)) 39 (up1 (M 39) kd (M 39 kd + 1))) := by
  refine cm_of (by decide +kernel) (fun _ => trivial) (Nat.le_of_ble_eq_true rfl) ?_
  first | refine ev_aload_n dX2_lay_0 rfl ?_ | refine ev_aloadX_n dX2_lay_0 rfl ?_
  refine ev_getR dX2_lay_1 fX2_9 rfl (by first | rfl | assumption) (by first | rfl | assumption) ?_
  refine ev_iload_n dX2_lay_4 rfl ?_
  refine ev_iconst dX2_lay_5 ?_
  refine ev_imul dX2_lay_6 ?_
  first | refine ev_aload_n dX2_lay_7 rfl ?_ | refine ev_aloadX_n dX2_lay_7 rfl ?_
  refine ev_getR dX2_lay_8 fX2_15 rfl (by first | rfl | assumption) (by first | rfl | assumption) ?_
  refine ev_iload_n dX2_lay_11 rfl ?_
  refine ev_iaload dX2_lay_12 (by first | rfl | assumption) (by omega) (by omega) (by decide) ?_
  refine ev_iadd dX2_lay_13 ?_
  refine ev_iload_n dX2_lay_14 rfl ?_
  refine ev_iastore dX2_lay_15 (by first | rfl | assumption) (by omega) (by omega) (by decide) ?_
  first | refine ev_aload_n dX2_lay_16 rfl ?_ | refine ev_aloadX_n dX2_lay_16 rfl ?_
  refine ev_getR dX2_lay_17 fX2_15 rfl (by first | rfl | assumption) (by first | rfl | assumption) ?_
  refine ev_iload_n dX2_lay_20 rfl ?_
  refine ev_dup2 dX2_lay_21 ?_
  refine ev_iaload dX2_lay_22 (by first | rfl | assumption) (by omega) (by omega) (by decide) ?_
  refine ev_iconst dX2_lay_23 ?_
  refine ev_iadd dX2_lay_24 ?_
  refine ev_iastore dX2_lay_25 (by first | rfl | assumption) (by omega) (by omega) (by decide) ?_
  first | refine ev_aload_n dX2_lay_26 rfl ?_ | refine ev_aloadX_n dX2_lay_26 rfl ?_
  refine ev_getR dX2_lay_27 fX2_15 rfl (by first | rfl | assumption) (by first | rfl | assumption) ?_
  refine ev_iload_n dX2_lay_30 rfl ?_
  refine ev_iaload dX2_lay_31 (by first | rfl | assumption) (by omega) (by omega) (by decide) ?_
  refine ev_ireturn dX2_lay_32 ⟨_, rfl, rfl⟩ (rz ?_)
  rw [upM_rw, upM_rw, rwc_ne (show (39 : Nat) ≠ 38 by decide), rwc_at, up1_s]
  exact ⟨rfl, rfl⟩
theorem c_stepAt {kd q : Int} (M : Mm) (h0 : 0 ≤ kd) (h1 : kd < 5) (h2 : 0 ≤ q) (h3 : q < 3) (h4 : inR (M 39 kd)) : Cm mX2_stepAt [vR 37, vI kd, vI q] M (fun r M' => r = some (vI (if q < M 39 kd then M 38 (kd * 3 + q) else -1)) ∧ M' = M) := by
  refine cm_of (by decide +kernel) (fun _ => trivial) (Nat.le_of_ble_eq_true rfl) ?_
  refine ev_iload_n dX2_stepAt_0 rfl ?_
  first | refine ev_aload_n dX2_stepAt_1 rfl ?_ | refine ev_aloadX_n dX2_stepAt_1 rfl ?_
  refine ev_getR dX2_stepAt_2 fX2_15 rfl (by first | rfl | assumption) (by first | rfl | assumption) ?_
  refine ev_iload_n dX2_stepAt_5 rfl ?_
  refine ev_iaload dX2_stepAt_6 (by first | rfl | assumption) (by omega) (by omega) (by decide) ?_
  refine ev_icmp_ge (tgt := 23) dX2_stepAt_7 (by decide) (by omega) (by omega) (fun h => ?_) (fun h => ?_)
  · refine ev_iconst dX2_stepAt_23 ?_
    exact ev_ireturn dX2_stepAt_24 ⟨_, rfl, rfl⟩ (rz ⟨by rw [if_neg (by omega)], rfl⟩)
  · first | refine ev_aload_n dX2_stepAt_10 rfl ?_ | refine ev_aloadX_n dX2_stepAt_10 rfl ?_
    refine ev_getR dX2_stepAt_11 fX2_9 rfl (by first | rfl | assumption) (by first | rfl | assumption) ?_
    refine ev_iload_n dX2_stepAt_14 rfl ?_
    refine ev_iconst dX2_stepAt_15 ?_
    refine ev_imul dX2_stepAt_16 ?_
    refine ev_iload_n dX2_stepAt_17 rfl ?_
    refine ev_iadd dX2_stepAt_18 ?_
    refine ev_iaload dX2_stepAt_19 (by first | rfl | assumption) (by omega) (by omega) (by decide) ?_
    refine ev_goto (tgt := 24) dX2_stepAt_20 (by decide) ?_
    exact ev_ireturn dX2_stepAt_24 ⟨_, rfl, rfl⟩ (rz ⟨by rw [if_pos h], rfl⟩)
def sumS (f : Int → Int) : Nat → Int
  | 0 => 0
  | i + 1 => sumS f i + f i
theorem c_countAll (M : Mm) : Cm mX2_countAll [vR 37] M (fun r M' => r = some (vI (sumS (M 39) 5)) ∧ M' = M) := by
  refine cm_of (by decide +kernel) (fun _ => trivial) (Nat.le_of_ble_eq_true rfl) ?_
  refine ev_iconst dX2_countAll_0 ?_
  refine ev_istore_n dX2_countAll_1 (by decide) ?_
  refine ev_iconst dX2_countAll_2 ?_
  refine ev_istore_n dX2_countAll_3 (by decide) ?_
  refine ev_to (L' := [some (vR 37), some (vI (sumS (M 39) 0)), some (vI ((0 : Nat) : Int))]) (S' := []) (M' := M) (k' := 0) (n' := 0) ?_ ⟨rfl, rfl, rfl, trivial⟩ rfl rfl rfl rfl
  refine up_loop (P := fun i => Ev mX2_countAll 4 [some (vR 37), some (vI (sumS (M 39) i)), some (vI (i : Int))] [] KK M PP 0 0 _) 5 ?_ ?_
  · refine ev_iload_n dX2_countAll_4 rfl ?_
    refine ev_iconst dX2_countAll_5 ?_
    refine ev_icmp_ge (tgt := 24) dX2_countAll_6 (by decide) (by omega) (by omega) (fun h => ?_) (fun h => ?_)
    · refine ev_iload_n dX2_countAll_24 rfl ?_
      exact ev_ireturn dX2_countAll_25 ⟨_, rfl, rfl⟩ (rz ⟨rfl, rfl⟩)
    · omega
  · intro i hi hP
    refine ev_iload_n dX2_countAll_4 rfl ?_
    refine ev_iconst dX2_countAll_5 ?_
    refine ev_icmp_ge (tgt := 24) dX2_countAll_6 (by decide) (by omega) (by omega) (fun h => ?_) (fun h => ?_)
    · omega
    refine ev_iload_n dX2_countAll_9 rfl ?_
    first | refine ev_aload_n dX2_countAll_10 rfl ?_ | refine ev_aloadX_n dX2_countAll_10 rfl ?_
    refine ev_getR dX2_countAll_11 fX2_15 rfl (by first | rfl | assumption) (by first | rfl | assumption) ?_
    refine ev_iload_n dX2_countAll_14 rfl ?_
    refine ev_iaload dX2_countAll_15 (by first | rfl | assumption) (by omega) (by omega) (by decide) ?_
    refine ev_iadd dX2_countAll_16 ?_
    refine ev_istore_n dX2_countAll_17 (by decide) ?_
    refine ev_iinc dX2_countAll_18 rfl (by decide) ?_
    refine ev_goto (tgt := 4) dX2_countAll_21 (by decide) ?_
    exact ev_to hP ⟨rfl, rfl, rfl, trivial⟩ rfl rfl rfl rfl
