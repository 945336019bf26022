/-! ===== Shape: fill, copy, lose, turn, shift, assign ===== -/
def fillF (f : Int → Int) : Int → Int := fun j => if 0 ≤ j ∧ j < 36 then (if j % 6 = nx (j / 6) then 0 else 16) else f j
def flS (f : Int → Int) (i : Nat) : Int → Int := fun j => if (0 ≤ j ∧ j < 36) ∧ j % 6 = nx (j / 6) ∧ j / 6 < i then 0 else fillS 16 f 36 j
theorem c_fill {c : Nat} (hs : isSh c) (M : Mm) : Cm mX6_fill [vR c] M (fun r M' => r = none ∧ M' = rwc (rwc M c (up1 (M c) 1 0)) (c + 1) (fillF (M (c + 1)))) := by
  obtain ⟨hs1, hs2, hs3⟩ := id hs
  have hne : c ≠ c + 1 := by omega
  refine cm_of (by decide +kernel) (fun _ => trivial) (Nat.le_of_ble_eq_true rfl) ?_
  first | refine ev_aload_n dX6_fill_0 rfl ?_ | refine ev_aloadX_n dX6_fill_0 rfl ?_
  refine ev_iconst dX6_fill_1 ?_
  refine ev_pZ 1 dX6_fill_2 sX6_15 rfl (by first | exact Or.inl rfl | exact Or.inr rfl | assumption) (by first | rfl | assumption) rfl ?_
  first | refine ev_aload_n dX6_fill_5 rfl ?_ | refine ev_aloadX_n dX6_fill_5 rfl ?_
  refine ev_getR dX6_fill_6 fX6_9 rfl (by first | rfl | assumption) (by first | rfl | assumption) ?_
  refine ev_bipush dX6_fill_9 ?_
  refine ev_calls (c_afill hs2 (by decide) _) dX6_fill_11 tJ7_fill_53178.1 kX6_19 tJ7_fill_53178.2.1 tJ7_fill_53178.2.2 ⟨⟨Nat.le_of_ble_eq_true rfl, Nat.le_of_ble_eq_true rfl⟩, Nat.le_of_ble_eq_true rfl, Nat.le_of_ble_eq_true rfl⟩ rfl (Nat.le_of_ble_eq_true rfl) ?_
  rintro r K' M' P' ⟨rfl, rfl, rfl, hM'⟩
  rw [hM']
  clear hM' M'
  rw [upM_rw, rwc_ne (show c + 1 ≠ c by omega)]
  refine ev_iconst dX6_fill_14 ?_
  refine ev_istore_n dX6_fill_15 (by decide) ?_
  refine ev_to (L' := [some (vR c), some (vI ((0 : Nat) : Int))]) (S' := []) (M' := rwc (rwc M c (up1 (M c) 1 0)) (c + 1) (flS (M (c + 1)) 0)) (k' := 0) (n' := 0) ?_ ⟨rfl, rfl, trivial⟩ ?_ rfl rfl rfl
  · refine up_loop (P := fun i => Ev mX6_fill 16 [some (vR c), some (vI (i : Int))] [] KK (rwc (rwc M c (up1 (M c) 1 0)) (c + 1) (flS (M (c + 1)) i)) PP 0 0 _) 6 ?_ ?_
    · refine ev_iload_n dX6_fill_16 rfl ?_
      refine ev_bipush dX6_fill_17 ?_
      refine ev_icmp_ge (tgt := 42) dX6_fill_19 (by decide) (by omega) (by omega) (fun h => ?_) (fun h => ?_)
      · refine ev_return dX6_fill_42 rfl (rz ⟨rfl, ?_⟩)
        congr 1
        funext j
        simp only [flS, fillS, fillF]
        by_cases h1 : 0 ≤ j ∧ j < 36
        · by_cases h2 : j % 6 = nx (j / 6)
          · rw [if_pos (by omega), if_pos h1, if_pos h2]
          · rw [if_neg (fun z => h2 z.2.1), if_pos (by omega), if_pos h1, if_neg h2]
        · rw [if_neg (fun z => h1 z.1), if_neg (by omega), if_neg h1]
      · omega
    · intro i hi hP
      have n1 := nx_rng (a := (i : Int)) (by omega) (by omega)
      refine ev_iload_n dX6_fill_16 rfl ?_
      refine ev_bipush dX6_fill_17 ?_
      refine ev_icmp_ge (tgt := 42) dX6_fill_19 (by decide) (by omega) (by omega) (fun h => ?_) (fun h => ?_)
      · omega
      first | refine ev_aload_n dX6_fill_22 rfl ?_ | refine ev_aloadX_n dX6_fill_22 rfl ?_
      refine ev_getR dX6_fill_23 fX6_9 rfl (by first | rfl | assumption) (by first | rfl | assumption) ?_
      refine ev_iload_n dX6_fill_26 rfl ?_
      refine ev_bipush dX6_fill_27 ?_
      refine ev_imul dX6_fill_29 ?_
      refine ev_iload_n dX6_fill_30 rfl ?_
      refine ev_iconst dX6_fill_31 ?_
      refine ev_ixor dX6_fill_32 ?_
      rw [xor1 (by omega) (by omega)]
      refine ev_iadd dX6_fill_33 ?_
      refine ev_iconst dX6_fill_34 ?_
      refine ev_iastore dX6_fill_35 (by first | rfl | assumption) (by omega) (by omega) (by decide) ?_
      refine ev_iinc dX6_fill_36 rfl (by decide) ?_
      refine ev_goto (tgt := 16) dX6_fill_39 (by decide) ?_
      refine ev_to hP ⟨rfl, rfl, trivial⟩ ?_ rfl rfl rfl
      rw [upM_rw, rwc_rwc, rwc_at]
      congr 1
      funext j
      simp only [flS, up1]
      by_cases hj : j = (i : Int) * 6 + nx i
      · have e1 : j / 6 = i := by omega
        have e2 : j % 6 = nx i := by omega
        rw [if_pos hj, if_pos ⟨by omega, by rw [e1, e2], by omega⟩]
      · rw [if_neg hj]
        by_cases hq : (0 ≤ j ∧ j < 36) ∧ j % 6 = nx (j / 6) ∧ j / 6 < i
        · rw [if_pos hq, if_pos ⟨hq.1, hq.2.1, by omega⟩]
        · rw [if_neg hq, if_neg]
          rintro ⟨q1, q2, q3⟩
          have e1 : j / 6 = i := by
            have : ¬ j / 6 < i := fun z => hq ⟨q1, q2, z⟩
            omega
          rw [e1] at q2
          exact hj (by omega)
  · congr 1
    funext j
    simp only [flS]
    rw [if_neg]
    rintro ⟨q1, q2, q3⟩
    omega
theorem c_copy {c c2 : Nat} (hs : isSh c) (hs' : isSh c2) (hcc : c ≠ c2) (M : Mm) (he : M c2 1 = 0 ∨ M c2 1 = 1) : Cm mX6_copy [vR c, vR c2] M (fun r M' => r = none ∧ M' = rwc (rwc M c (up1 (M c) 1 (M c2 1))) (c + 1) (cpS 36 (M (c2 + 1)) (M (c + 1)))) := by
  obtain ⟨hs1, hs2, hs3⟩ := id hs
  obtain ⟨ht1, ht2, ht3⟩ := id hs'
  have n1 := isSh_ne hs hs'
  refine cm_of (by decide +kernel) (fun _ => trivial) (Nat.le_of_ble_eq_true rfl) ?_
  first | refine ev_aload_n dX6_copy_0 rfl ?_ | refine ev_aloadX_n dX6_copy_0 rfl ?_
  first | refine ev_aload_n dX6_copy_1 rfl ?_ | refine ev_aloadX_n dX6_copy_1 rfl ?_
  refine ev_gI 1 dX6_copy_2 fX6_15 rfl (by first | rfl | assumption) rfl ?_
  refine ev_pZ 1 dX6_copy_5 sX6_15 rfl (by first | exact Or.inl rfl | exact Or.inr rfl | assumption) (by first | rfl | assumption) rfl ?_
  first | refine ev_aload_n dX6_copy_8 rfl ?_ | refine ev_aloadX_n dX6_copy_8 rfl ?_
  refine ev_getR dX6_copy_9 fX6_9 rfl (by first | rfl | assumption) (by first | rfl | assumption) ?_
  refine ev_iconst dX6_copy_12 ?_
  first | refine ev_aload_n dX6_copy_13 rfl ?_ | refine ev_aloadX_n dX6_copy_13 rfl ?_
  refine ev_getR dX6_copy_14 fX6_9 rfl (by first | rfl | assumption) (by first | rfl | assumption) ?_
  refine ev_iconst dX6_copy_17 ?_
  refine ev_bipush dX6_copy_18 ?_
  refine ev_acopy (K0 := ht2) (K1 := hs2) (n0 := 36) (n1 := 36) dX6_copy_20 aX6_25 (by omega) (by omega) (by omega) (by decide) (by decide) (by decide) ?_
  rw [upM_rw, rwc_ne (show c2 + 1 ≠ c from fun z => n1 z.symm), rwc_ne (show c + 1 ≠ c by omega)]
  exact ev_return dX6_copy_23 rfl (rz ⟨rfl, rfl⟩)
/-- lose one signed number: its first k pairs -/
def lsR (a : Int) : Nat → (Int → Int) → (Int → Int)
  | 0, f => f
  | k + 1, f => if (k : Int) = nx a then lsR a k f else st2 (lsR a k f) a k 16
def loseF (x : Int) (f : Int → Int) : Int → Int := lsR (2 * x + 1) 6 (lsR (2 * x) 6 f)
theorem c_lose {c : Nat} (hs : isSh c) {x : Int} (hx : 0 ≤ x) (hx2 : x < 3) (M : Mm) : Cm mX6_lose [vR c, vI x] M (fun r M' => r = none ∧ M' = rwc M (c + 1) (loseF x (M (c + 1)))) := by
  obtain ⟨hs1, hs2, hs3⟩ := id hs
  refine cm_of (by decide +kernel) (fun _ => trivial) (Nat.le_of_ble_eq_true rfl) ?_
  refine ev_iconst dX6_lose_0 ?_
  refine ev_iload_n dX6_lose_1 rfl ?_
  refine ev_imul dX6_lose_2 ?_
  refine ev_istore_n dX6_lose_3 (by decide) ?_
  refine ev_iload_n dX6_lose_4 rfl ?_
  refine ev_istore_n dX6_lose_5 (by decide) ?_
  have inner : ∀ (a : Int) (g : Int → Int), 0 ≤ a → a < 6 → Ev mX6_lose 6 [some (vR c), some (vI x), some (vI (2 * x)), some (vI (a + 1)), none] [] KK (rwc M (c + 1) (lsR a 6 g)) PP 0 0 (Rz mX6_lose (fun r M' => r = none ∧ M' = rwc M (c + 1) (loseF x (M (c + 1))))) → Ev mX6_lose 13 [some (vR c), some (vI x), some (vI (2 * x)), some (vI a), none] [] KK (rwc M (c + 1) g) PP 0 0 (Rz mX6_lose (fun r M' => r = none ∧ M' = rwc M (c + 1) (loseF x (M (c + 1))))) := by
    intro a g ha ha2 hE
    have n1 := nx_rng ha ha2
    refine ev_iconst dX6_lose_13 ?_
    refine ev_istore dX6_lose_14 (by decide) ?_
    refine ev_to (L' := [some (vR c), some (vI x), some (vI (2 * x)), some (vI a), some (vI ((0 : Nat) : Int))]) (S' := []) (M' := rwc M (c + 1) (lsR a 0 g)) (k' := 0) (n' := 0) ?_ ⟨rfl, rfl, rfl, rfl, rfl, trivial⟩ rfl rfl rfl rfl
    refine up_loop (P := fun i => Ev mX6_lose 16 [some (vR c), some (vI x), some (vI (2 * x)), some (vI a), some (vI (i : Int))] [] KK (rwc M (c + 1) (lsR a i g)) PP 0 0 _) 6 ?_ ?_
    · refine ev_iload dX6_lose_16 rfl ?_
      refine ev_bipush dX6_lose_18 ?_
      refine ev_icmp_ge (tgt := 46) dX6_lose_20 (by decide) (by omega) (by omega) (fun h => ?_) (fun h => ?_)
      · refine ev_iinc dX6_lose_46 rfl (by decide) ?_
        refine ev_goto (tgt := 6) dX6_lose_49 (by decide) ?_
        exact ev_to hE ⟨rfl, rfl, rfl, rfl, trivial⟩ rfl rfl rfl rfl
      · omega
    · intro i hi hP
      refine ev_iload dX6_lose_16 rfl ?_
      refine ev_bipush dX6_lose_18 ?_
      refine ev_icmp_ge (tgt := 46) dX6_lose_20 (by decide) (by omega) (by omega) (fun h => ?_) (fun h => ?_)
      · omega
      refine ev_iload dX6_lose_23 rfl ?_
      refine ev_iload_n dX6_lose_25 rfl ?_
      refine ev_iconst dX6_lose_26 ?_
      refine ev_ixor dX6_lose_27 ?_
      rw [xor1 ha ha2]
      refine ev_icmp_eq (tgt := 40) dX6_lose_28 (by decide) (by omega) (by omega) (fun hq => ?_) (fun hq => ?_)
      · refine ev_iinc dX6_lose_40 rfl (by decide) ?_
        refine ev_goto (tgt := 16) dX6_lose_43 (by decide) ?_
        refine ev_to hP ⟨rfl, rfl, rfl, rfl, rfl, trivial⟩ ?_ rfl rfl rfl
        simp only [lsR]
        rw [if_pos hq]
      · first | refine ev_aload_n dX6_lose_31 rfl ?_ | refine ev_aloadX_n dX6_lose_31 rfl ?_
        refine ev_iload_n dX6_lose_32 rfl ?_
        refine ev_iload dX6_lose_33 rfl ?_
        refine ev_bipush dX6_lose_35 ?_
        refine ev_callv (ci := 6) (c_setBound hs (by omega) (by omega) (by omega) (by omega) _) dX6_lose_37 tX6_setBound.1 kX6_35 tX6_setBound.2.1 tX6_setBound.2.2.1 rfl (by first | rfl | assumption) tX6_setBound.2.2.2 ⟨⟨Nat.le_of_ble_eq_true rfl, Nat.le_of_ble_eq_true rfl⟩, Nat.le_of_ble_eq_true rfl, Nat.le_of_ble_eq_true rfl⟩ rfl (Nat.le_of_ble_eq_true rfl) ?_
        rintro r K' M' P' ⟨rfl, rfl, rfl, hM'⟩
        rw [hM']
        clear hM' M'
        refine ev_iinc dX6_lose_40 rfl (by decide) ?_
        refine ev_goto (tgt := 16) dX6_lose_43 (by decide) ?_
        refine ev_to hP ⟨rfl, rfl, rfl, rfl, rfl, trivial⟩ ?_ rfl rfl rfl
        simp only [lsR]
        rw [if_neg hq, rwc_rwc, rwc_at]
  refine ev_iload_n dX6_lose_6 rfl ?_
  refine ev_iload_n dX6_lose_7 rfl ?_
  refine ev_iconst dX6_lose_8 ?_
  refine ev_iadd dX6_lose_9 ?_
  refine ev_icmp_gt (tgt := 52) dX6_lose_10 (by decide) (by omega) (by omega) (fun h1 => ?_) (fun h1 => ?_)
  · omega
  refine ev_to (inner (2 * x) (M (c + 1)) (by omega) (by omega) ?_) ⟨rfl, rfl, rfl, rfl, trivial⟩ (by rw [rwc_self]) rfl rfl rfl
  refine ev_iload_n dX6_lose_6 rfl ?_
  refine ev_iload_n dX6_lose_7 rfl ?_
  refine ev_iconst dX6_lose_8 ?_
  refine ev_iadd dX6_lose_9 ?_
  refine ev_icmp_gt (tgt := 52) dX6_lose_10 (by decide) (by omega) (by omega) (fun h2 => ?_) (fun h2 => ?_)
  · omega
  refine inner (2 * x + 1) _ (by omega) (by omega) ?_
  refine ev_iload_n dX6_lose_6 rfl ?_
  refine ev_iload_n dX6_lose_7 rfl ?_
  refine ev_iconst dX6_lose_8 ?_
  refine ev_iadd dX6_lose_9 ?_
  refine ev_icmp_gt (tgt := 52) dX6_lose_10 (by decide) (by omega) (by omega) (fun h3 => ?_) (fun h3 => ?_)
  · exact ev_return dX6_lose_52 rfl (rz ⟨rfl, rfl⟩)
  · omega
/-- the other sign of x, its first k pairs -/
def tnR (x : Int) : Nat → (Int → Int) → (Int → Int)
  | 0, f => f
  | k + 1, f => if (k : Int) / 2 = x then tnR x k f else st2 (st2 (tnR x k f) (2 * x) k (tnR x k f ((2 * x + 1) * 6 + k))) (2 * x + 1) k (tnR x k f ((2 * x) * 6 + k))
def turnF (x : Int) (f : Int → Int) : Int → Int := tnR x 6 (st2 (st2 f (2 * x) (2 * x) (f ((2 * x + 1) * 6 + (2 * x + 1)))) (2 * x + 1) (2 * x + 1) (f ((2 * x) * 6 + 2 * x)))
theorem tdiv_half {k : Nat} : ((k : Int)).tdiv 2 = (k : Int) / 2 := Int.tdiv_eq_ediv_of_nonneg (by omega)
theorem c_turn {c : Nat} (hs : isSh c) {x : Int} (hx : 0 ≤ x) (hx2 : x < 3) (M : Mm) : Cm mX6_turn [vR c, vI x] M (fun r M' => r = none ∧ M' = rwc M (c + 1) (turnF x (M (c + 1)))) := by
  obtain ⟨hs1, hs2, hs3⟩ := id hs
  refine cm_of (by decide +kernel) (fun _ => trivial) (Nat.le_of_ble_eq_true rfl) ?_
  refine ev_iconst dX6_turn_0 ?_
  refine ev_iload_n dX6_turn_1 rfl ?_
  refine ev_imul dX6_turn_2 ?_
  refine ev_istore_n dX6_turn_3 (by decide) ?_
  refine ev_iload_n dX6_turn_4 rfl ?_
  refine ev_iconst dX6_turn_5 ?_
  refine ev_iadd dX6_turn_6 ?_
  refine ev_istore_n dX6_turn_7 (by decide) ?_
  first | refine ev_aload_n dX6_turn_8 rfl ?_ | refine ev_aloadX_n dX6_turn_8 rfl ?_
  refine ev_iload_n dX6_turn_9 rfl ?_
  refine ev_iload_n dX6_turn_10 rfl ?_
  refine ev_callv (ci := 6) (c_boundOf hs (by omega) (by omega) (by omega) (by omega) _) dX6_turn_11 tX6_boundOf.1 kX6_31 tX6_boundOf.2.1 tX6_boundOf.2.2.1 rfl (by first | rfl | assumption) tX6_boundOf.2.2.2 ⟨⟨Nat.le_of_ble_eq_true rfl, Nat.le_of_ble_eq_true rfl⟩, Nat.le_of_ble_eq_true rfl, Nat.le_of_ble_eq_true rfl⟩ rfl (Nat.le_of_ble_eq_true rfl) ?_
  rintro r K' M' P' ⟨rfl, rfl, rfl, hM'⟩
  rw [hM']
  clear hM' M'
  refine ev_istore dX6_turn_14 (by decide) ?_
  first | refine ev_aload_n dX6_turn_16 rfl ?_ | refine ev_aloadX_n dX6_turn_16 rfl ?_
  refine ev_iload_n dX6_turn_17 rfl ?_
  refine ev_iload_n dX6_turn_18 rfl ?_
  first | refine ev_aload_n dX6_turn_19 rfl ?_ | refine ev_aloadX_n dX6_turn_19 rfl ?_
  refine ev_iload_n dX6_turn_20 rfl ?_
  refine ev_iload_n dX6_turn_21 rfl ?_
  refine ev_callv (ci := 6) (c_boundOf hs (by omega) (by omega) (by omega) (by omega) _) dX6_turn_22 tX6_boundOf.1 kX6_31 tX6_boundOf.2.1 tX6_boundOf.2.2.1 rfl (by first | rfl | assumption) tX6_boundOf.2.2.2 ⟨⟨Nat.le_of_ble_eq_true rfl, Nat.le_of_ble_eq_true rfl⟩, Nat.le_of_ble_eq_true rfl, Nat.le_of_ble_eq_true rfl⟩ rfl (Nat.le_of_ble_eq_true rfl) ?_
  rintro r K' M' P' ⟨rfl, rfl, rfl, hM'⟩
  rw [hM']
  clear hM' M'
  refine ev_callv (ci := 6) (c_setBound hs (by omega) (by omega) (by omega) (by omega) _) dX6_turn_25 tX6_setBound.1 kX6_35 tX6_setBound.2.1 tX6_setBound.2.2.1 rfl (by first | rfl | assumption) tX6_setBound.2.2.2 ⟨⟨Nat.le_of_ble_eq_true rfl, Nat.le_of_ble_eq_true rfl⟩, Nat.le_of_ble_eq_true rfl, Nat.le_of_ble_eq_true rfl⟩ rfl (Nat.le_of_ble_eq_true rfl) ?_
  rintro r K' M' P' ⟨rfl, rfl, rfl, hM'⟩
  rw [hM']
  clear hM' M'
  first | refine ev_aload_n dX6_turn_28 rfl ?_ | refine ev_aloadX_n dX6_turn_28 rfl ?_
  refine ev_iload_n dX6_turn_29 rfl ?_
  refine ev_iload_n dX6_turn_30 rfl ?_
  refine ev_iload dX6_turn_31 rfl ?_
  refine ev_callv (ci := 6) (c_setBound hs (by omega) (by omega) (by omega) (by omega) _) dX6_turn_33 tX6_setBound.1 kX6_35 tX6_setBound.2.1 tX6_setBound.2.2.1 rfl (by first | rfl | assumption) tX6_setBound.2.2.2 ⟨⟨Nat.le_of_ble_eq_true rfl, Nat.le_of_ble_eq_true rfl⟩, Nat.le_of_ble_eq_true rfl, Nat.le_of_ble_eq_true rfl⟩ rfl (Nat.le_of_ble_eq_true rfl) ?_
  rintro r K' M' P' ⟨rfl, rfl, rfl, hM'⟩
  rw [hM']
  clear hM' M'
  rw [rwc_rwc, rwc_at]
  refine ev_iconst dX6_turn_36 ?_
  refine ev_istore dX6_turn_37 (by decide) ?_
  refine ev_to (L' := [some (vR c), some (vI x), some (vI (2 * x)), some (vI (2 * x + 1)), none, some (vI ((0 : Nat) : Int)), none]) (S' := []) (M' := rwc M (c + 1) (tnR x 0 (st2 (st2 (M (c + 1)) (2 * x) (2 * x) (M (c + 1) ((2 * x + 1) * 6 + (2 * x + 1)))) (2 * x + 1) (2 * x + 1) (M (c + 1) ((2 * x) * 6 + 2 * x))))) (k' := 0) (n' := 0) ?_ ⟨rfl, rfl, rfl, rfl, rfl, trivial⟩ rfl rfl rfl rfl
  generalize hg : st2 (st2 (M (c + 1)) (2 * x) (2 * x) (M (c + 1) ((2 * x + 1) * 6 + (2 * x + 1)))) (2 * x + 1) (2 * x + 1) (M (c + 1) ((2 * x) * 6 + 2 * x)) = g
  refine up_loop (P := fun i => Ev mX6_turn 39 [some (vR c), some (vI x), some (vI (2 * x)), some (vI (2 * x + 1)), none, some (vI (i : Int)), none] [] KK (rwc M (c + 1) (tnR x i g)) PP 0 0 _) 6 ?_ ?_
  · refine ev_iload dX6_turn_39 rfl ?_
    refine ev_bipush dX6_turn_41 ?_
    refine ev_icmp_ge (tgt := 95) dX6_turn_43 (by decide) (by omega) (by omega) (fun h => ?_) (fun h => ?_)
    · exact ev_return dX6_turn_95 rfl (rz ⟨rfl, by rw [← hg]; rfl⟩)
    · omega
  · intro i hi hP
    refine ev_iload dX6_turn_39 rfl ?_
    refine ev_bipush dX6_turn_41 ?_
    refine ev_icmp_ge (tgt := 95) dX6_turn_43 (by decide) (by omega) (by omega) (fun h => ?_) (fun h => ?_)
    · omega
    refine ev_iload dX6_turn_46 rfl ?_
    refine ev_iconst dX6_turn_48 ?_
    refine ev_idiv dX6_turn_49 (by omega) (by omega) (by omega) (by omega) ?_
    refine ev_iload_n dX6_turn_50 rfl ?_
    rw [tdiv_half]
    refine ev_icmp_ne (tgt := 57) dX6_turn_51 (by decide) (by omega) (by omega) (fun hq => ?_) (fun hq => ?_)
    · first | refine ev_aload_n dX6_turn_57 rfl ?_ | refine ev_aloadX_n dX6_turn_57 rfl ?_
      refine ev_iload_n dX6_turn_58 rfl ?_
      refine ev_iload dX6_turn_59 rfl ?_
      refine ev_callv (ci := 6) (c_boundOf hs (by omega) (by omega) (by omega) (by omega) _) dX6_turn_61 tX6_boundOf.1 kX6_31 tX6_boundOf.2.1 tX6_boundOf.2.2.1 rfl (by first | rfl | assumption) tX6_boundOf.2.2.2 ⟨⟨Nat.le_of_ble_eq_true rfl, Nat.le_of_ble_eq_true rfl⟩, Nat.le_of_ble_eq_true rfl, Nat.le_of_ble_eq_true rfl⟩ rfl (Nat.le_of_ble_eq_true rfl) ?_
      rintro r K' M' P' ⟨rfl, rfl, rfl, hM'⟩
      rw [hM']
      clear hM' M'
      rw [rwc_at]
      refine ev_istore dX6_turn_64 (by decide) ?_
      first | refine ev_aload_n dX6_turn_66 rfl ?_ | refine ev_aloadX_n dX6_turn_66 rfl ?_
      refine ev_iload_n dX6_turn_67 rfl ?_
      refine ev_iload dX6_turn_68 rfl ?_
      first | refine ev_aload_n dX6_turn_70 rfl ?_ | refine ev_aloadX_n dX6_turn_70 rfl ?_
      refine ev_iload_n dX6_turn_71 rfl ?_
      refine ev_iload dX6_turn_72 rfl ?_
      refine ev_callv (ci := 6) (c_boundOf hs (by omega) (by omega) (by omega) (by omega) _) dX6_turn_74 tX6_boundOf.1 kX6_31 tX6_boundOf.2.1 tX6_boundOf.2.2.1 rfl (by first | rfl | assumption) tX6_boundOf.2.2.2 ⟨⟨Nat.le_of_ble_eq_true rfl, Nat.le_of_ble_eq_true rfl⟩, Nat.le_of_ble_eq_true rfl, Nat.le_of_ble_eq_true rfl⟩ rfl (Nat.le_of_ble_eq_true rfl) ?_
      rintro r K' M' P' ⟨rfl, rfl, rfl, hM'⟩
      rw [hM']
      clear hM' M'
      rw [rwc_at]
      refine ev_callv (ci := 6) (c_setBound hs (by omega) (by omega) (by omega) (by omega) _) dX6_turn_77 tX6_setBound.1 kX6_35 tX6_setBound.2.1 tX6_setBound.2.2.1 rfl (by first | rfl | assumption) tX6_setBound.2.2.2 ⟨⟨Nat.le_of_ble_eq_true rfl, Nat.le_of_ble_eq_true rfl⟩, Nat.le_of_ble_eq_true rfl, Nat.le_of_ble_eq_true rfl⟩ rfl (Nat.le_of_ble_eq_true rfl) ?_
      rintro r K' M' P' ⟨rfl, rfl, rfl, hM'⟩
      rw [hM']
      clear hM' M'
      first | refine ev_aload_n dX6_turn_80 rfl ?_ | refine ev_aloadX_n dX6_turn_80 rfl ?_
      refine ev_iload_n dX6_turn_81 rfl ?_
      refine ev_iload dX6_turn_82 rfl ?_
      refine ev_iload dX6_turn_84 rfl ?_
      refine ev_callv (ci := 6) (c_setBound hs (by omega) (by omega) (by omega) (by omega) _) dX6_turn_86 tX6_setBound.1 kX6_35 tX6_setBound.2.1 tX6_setBound.2.2.1 rfl (by first | rfl | assumption) tX6_setBound.2.2.2 ⟨⟨Nat.le_of_ble_eq_true rfl, Nat.le_of_ble_eq_true rfl⟩, Nat.le_of_ble_eq_true rfl, Nat.le_of_ble_eq_true rfl⟩ rfl (Nat.le_of_ble_eq_true rfl) ?_
      rintro r K' M' P' ⟨rfl, rfl, rfl, hM'⟩
      rw [hM']
      clear hM' M'
      refine ev_iinc dX6_turn_89 rfl (by decide) ?_
      refine ev_goto (tgt := 39) dX6_turn_92 (by decide) ?_
      refine ev_to hP ⟨rfl, rfl, rfl, rfl, rfl, trivial⟩ ?_ rfl rfl rfl
      simp only [tnR]
      rw [if_neg hq, rwc_rwc, rwc_at, rwc_rwc, rwc_at]
    · refine ev_goto (tgt := 89) dX6_turn_54 (by decide) ?_
      refine ev_iinc dX6_turn_89 rfl (by decide) ?_
      refine ev_goto (tgt := 39) dX6_turn_92 (by decide) ?_
      refine ev_to hP ⟨rfl, rfl, rfl, rfl, rfl, trivial⟩ ?_ rfl rfl rfl
      simp only [tnR]
      rw [if_pos hq]
/-- x moved by z, its first k pairs -/
def shR (x z : Int) : Nat → (Int → Int) → (Int → Int)
  | 0, f => f
  | k + 1, f => if (k : Int) / 2 = x then shR x z k f else st2 (st2 (shR x z k f) (2 * x) k (shR x z k f ((2 * x) * 6 + k) + z)) (2 * x + 1) k (st2 (shR x z k f) (2 * x) k (shR x z k f ((2 * x) * 6 + k) + z) ((2 * x + 1) * 6 + k) - z)
def shE (x z : Int) (f : Int → Int) : Int → Int := st2 f (2 * x) (2 * x) (min (f ((2 * x) * 6 + 2 * x) + 2 * z) 16)
def shD (x z : Int) (f : Int → Int) : Int → Int := st2 f (2 * x + 1) (2 * x + 1) (min (f ((2 * x + 1) * 6 + (2 * x + 1)) - 2 * z) 16)
def shiftF (x z : Int) (f : Int → Int) : Int → Int := shD x z (shE x z (shR x z 6 f))
theorem shR_bd {x z : Int} {f : Int → Int} (hx : 0 ≤ x) (hx2 : x < 3) (hz : -9 ≤ z) (hz2 : z ≤ 9) {B : Int} (h : bdd B f) : ∀ k : Nat, k ≤ 6 → bdd (B + 18 * k) (shR x z k f) := by
  intro k
  induction k with
  | zero => intro _; simpa [shR] using h
  | succ k ih =>
    intro hk
    have h1 := ih (by omega)
    simp only [shR]
    split
    · exact bdd_mono h1 (by omega)
    · have h2 := h1 ((2 * x) * 6 + k) (by omega) (by omega)
      have h3 : bdd (B + 18 * k + 9) (st2 (shR x z k f) (2 * x) k (shR x z k f ((2 * x) * 6 + k) + z)) := bdd_st2 (bdd_mono h1 (by omega)) (by omega)
      have h4 := h3 ((2 * x + 1) * 6 + k) (by omega) (by omega)
      exact bdd_st2 (bdd_mono h3 (by omega)) (by omega)
theorem c_shift {c : Nat} (hs : isSh c) {x z : Int} (hx : 0 ≤ x) (hx2 : x < 3) (hz : -9 ≤ z) (hz2 : z ≤ 9) (M : Mm) (hB : bdd 1000 (M (c + 1))) : Cm mX6_shift [vR c, vI x, vI z] M (fun r M' => r = none ∧ M' = rwc M (c + 1) (shiftF x z (M (c + 1)))) := by
  obtain ⟨hs1, hs2, hs3⟩ := id hs
  refine cm_of (by decide +kernel) (fun _ => trivial) (Nat.le_of_ble_eq_true rfl) ?_
  refine ev_iconst dX6_shift_0 ?_
  refine ev_iload_n dX6_shift_1 rfl ?_
  refine ev_imul dX6_shift_2 ?_
  refine ev_istore_n dX6_shift_3 (by decide) ?_
  refine ev_iload_n dX6_shift_4 rfl ?_
  refine ev_iconst dX6_shift_5 ?_
  refine ev_iadd dX6_shift_6 ?_
  refine ev_istore dX6_shift_7 (by decide) ?_
  refine ev_iconst dX6_shift_9 ?_
  refine ev_istore dX6_shift_10 (by decide) ?_
  refine ev_to (L' := [some (vR c), some (vI x), some (vI z), some (vI (2 * x)), some (vI (2 * x + 1)), some (vI ((0 : Nat) : Int))]) (S' := []) (M' := rwc M (c + 1) (shR x z 0 (M (c + 1)))) (k' := 0) (n' := 0) ?_ ⟨rfl, rfl, rfl, rfl, rfl, rfl, trivial⟩ (by show M = rwc M (c + 1) (M (c + 1)); rw [rwc_self]) rfl rfl rfl
  refine up_loop (P := fun i => Ev mX6_shift 12 [some (vR c), some (vI x), some (vI z), some (vI (2 * x)), some (vI (2 * x + 1)), some (vI (i : Int))] [] KK (rwc M (c + 1) (shR x z i (M (c + 1)))) PP 0 0 _) 6 ?_ ?_
  · have b := shR_bd hx hx2 hz hz2 hB 6 (by omega)
    generalize hg : shR x z 6 (M (c + 1)) = g at b ⊢
    have b1 := b ((2 * x) * 6 + 2 * x) (by omega) (by omega)
    have b2 := b ((2 * x + 1) * 6 + (2 * x + 1)) (by omega) (by omega)
    refine ev_iload dX6_shift_12 rfl ?_
    refine ev_bipush dX6_shift_14 ?_
    refine ev_icmp_ge (tgt := 70) dX6_shift_16 (by decide) (by omega) (by omega) (fun h => ?_) (fun h => ?_)
    · first | refine ev_aload_n dX6_shift_70 rfl ?_ | refine ev_aloadX_n dX6_shift_70 rfl ?_
      refine ev_iload_n dX6_shift_71 rfl ?_
      refine ev_iload_n dX6_shift_72 rfl ?_
      first | refine ev_aload_n dX6_shift_73 rfl ?_ | refine ev_aloadX_n dX6_shift_73 rfl ?_
      refine ev_iload_n dX6_shift_74 rfl ?_
      refine ev_iload_n dX6_shift_75 rfl ?_
      refine ev_callv (ci := 6) (c_boundOf hs (by omega) (by omega) (by omega) (by omega) _) dX6_shift_76 tX6_boundOf.1 kX6_31 tX6_boundOf.2.1 tX6_boundOf.2.2.1 rfl (by first | rfl | assumption) tX6_boundOf.2.2.2 ⟨⟨Nat.le_of_ble_eq_true rfl, Nat.le_of_ble_eq_true rfl⟩, Nat.le_of_ble_eq_true rfl, Nat.le_of_ble_eq_true rfl⟩ rfl (Nat.le_of_ble_eq_true rfl) ?_
      rintro r K' M' P' ⟨rfl, rfl, rfl, hM'⟩
      rw [hM']
      clear hM' M'
      rw [rwc_at]
      refine ev_iconst dX6_shift_79 ?_
      refine ev_iload_n dX6_shift_80 rfl ?_
      refine ev_imul dX6_shift_81 ?_
      refine ev_iadd dX6_shift_82 ?_
      refine ev_bipush dX6_shift_83 ?_
      refine ev_calls (c_min (by omega) (by omega) _) dX6_shift_85 tJ9_min_7cf53.1 kX6_56 tJ9_min_7cf53.2.1 tJ9_min_7cf53.2.2 ⟨⟨Nat.le_of_ble_eq_true rfl, Nat.le_of_ble_eq_true rfl⟩, Nat.le_of_ble_eq_true rfl, Nat.le_of_ble_eq_true rfl⟩ rfl (Nat.le_of_ble_eq_true rfl) ?_
      rintro r K' M' P' ⟨rfl, rfl, rfl, hM'⟩
      rw [hM']
      clear hM' M'
      refine ev_callv (ci := 6) (c_setBound hs (by omega) (by omega) (by omega) (by omega) _) dX6_shift_88 tX6_setBound.1 kX6_35 tX6_setBound.2.1 tX6_setBound.2.2.1 rfl (by first | rfl | assumption) tX6_setBound.2.2.2 ⟨⟨Nat.le_of_ble_eq_true rfl, Nat.le_of_ble_eq_true rfl⟩, Nat.le_of_ble_eq_true rfl, Nat.le_of_ble_eq_true rfl⟩ rfl (Nat.le_of_ble_eq_true rfl) ?_
      rintro r K' M' P' ⟨rfl, rfl, rfl, hM'⟩
      rw [hM']
      clear hM' M'
      rw [rwc_rwc, rwc_at]
      have b3 : shE x z g ((2 * x + 1) * 6 + (2 * x + 1)) = g ((2 * x + 1) * 6 + (2 * x + 1)) := by
        unfold shE
        rw [st2_diag, up1_n (by omega)]
      first | refine ev_aload_n dX6_shift_91 rfl ?_ | refine ev_aloadX_n dX6_shift_91 rfl ?_
      refine ev_iload dX6_shift_92 rfl ?_
      refine ev_iload dX6_shift_94 rfl ?_
      first | refine ev_aload_n dX6_shift_96 rfl ?_ | refine ev_aloadX_n dX6_shift_96 rfl ?_
      refine ev_iload dX6_shift_97 rfl ?_
      refine ev_iload dX6_shift_99 rfl ?_
      refine ev_callv (ci := 6) (c_boundOf hs (by omega) (by omega) (by omega) (by omega) _) dX6_shift_101 tX6_boundOf.1 kX6_31 tX6_boundOf.2.1 tX6_boundOf.2.2.1 rfl (by first | rfl | assumption) tX6_boundOf.2.2.2 ⟨⟨Nat.le_of_ble_eq_true rfl, Nat.le_of_ble_eq_true rfl⟩, Nat.le_of_ble_eq_true rfl, Nat.le_of_ble_eq_true rfl⟩ rfl (Nat.le_of_ble_eq_true rfl) ?_
      rintro r K' M' P' ⟨rfl, rfl, rfl, hM'⟩
      rw [hM']
      clear hM' M'
      rw [rwc_at]
      have b4 : st2 g (2 * x) (2 * x) (min (g (2 * x * 6 + 2 * x) + 2 * z) 16) ((2 * x + 1) * 6 + (2 * x + 1)) = g ((2 * x + 1) * 6 + (2 * x + 1)) := b3
      rw [b4]
      refine ev_iconst dX6_shift_104 ?_
      refine ev_iload_n dX6_shift_105 rfl ?_
      refine ev_imul dX6_shift_106 ?_
      refine ev_isub dX6_shift_107 ?_
      refine ev_bipush dX6_shift_108 ?_
      refine ev_calls (c_min (by omega) (by omega) _) dX6_shift_110 tJ9_min_7cf53.1 kX6_56 tJ9_min_7cf53.2.1 tJ9_min_7cf53.2.2 ⟨⟨Nat.le_of_ble_eq_true rfl, Nat.le_of_ble_eq_true rfl⟩, Nat.le_of_ble_eq_true rfl, Nat.le_of_ble_eq_true rfl⟩ rfl (Nat.le_of_ble_eq_true rfl) ?_
      rintro r K' M' P' ⟨rfl, rfl, rfl, hM'⟩
      rw [hM']
      clear hM' M'
      refine ev_callv (ci := 6) (c_setBound hs (by omega) (by omega) (by omega) (by omega) _) dX6_shift_113 tX6_setBound.1 kX6_35 tX6_setBound.2.1 tX6_setBound.2.2.1 rfl (by first | rfl | assumption) tX6_setBound.2.2.2 ⟨⟨Nat.le_of_ble_eq_true rfl, Nat.le_of_ble_eq_true rfl⟩, Nat.le_of_ble_eq_true rfl, Nat.le_of_ble_eq_true rfl⟩ rfl (Nat.le_of_ble_eq_true rfl) ?_
      rintro r K' M' P' ⟨rfl, rfl, rfl, hM'⟩
      rw [hM']
      clear hM' M'
      refine ev_return dX6_shift_116 rfl (rz ⟨rfl, ?_⟩)
      rw [rwc_rwc, rwc_at]
      show _ = rwc M (c + 1) (shD x z (shE x z (shR x z 6 (M (c + 1)))))
      rw [hg]
      show _ = rwc M (c + 1) (st2 (shE x z g) (2 * x + 1) (2 * x + 1) (min (shE x z g ((2 * x + 1) * 6 + (2 * x + 1)) - 2 * z) 16))
      rw [b3]
      rfl
    · omega
  · intro i hi hP
    have b := shR_bd hx hx2 hz hz2 hB i (by omega)
    generalize hg : shR x z i (M (c + 1)) = g at b ⊢
    refine ev_iload dX6_shift_12 rfl ?_
    refine ev_bipush dX6_shift_14 ?_
    refine ev_icmp_ge (tgt := 70) dX6_shift_16 (by decide) (by omega) (by omega) (fun h => ?_) (fun h => ?_)
    · omega
    refine ev_iload dX6_shift_19 rfl ?_
    refine ev_iconst dX6_shift_21 ?_
    refine ev_idiv dX6_shift_22 (by omega) (by omega) (by omega) (by omega) ?_
    refine ev_iload_n dX6_shift_23 rfl ?_
    rw [tdiv_half]
    refine ev_icmp_ne (tgt := 30) dX6_shift_24 (by decide) (by omega) (by omega) (fun hq => ?_) (fun hq => ?_)
    · first | refine ev_aload_n dX6_shift_30 rfl ?_ | refine ev_aloadX_n dX6_shift_30 rfl ?_
      refine ev_iload_n dX6_shift_31 rfl ?_
      refine ev_iload dX6_shift_32 rfl ?_
      first | refine ev_aload_n dX6_shift_34 rfl ?_ | refine ev_aloadX_n dX6_shift_34 rfl ?_
      refine ev_iload_n dX6_shift_35 rfl ?_
      refine ev_iload dX6_shift_36 rfl ?_
      refine ev_callv (ci := 6) (c_boundOf hs (by omega) (by omega) (by omega) (by omega) _) dX6_shift_38 tX6_boundOf.1 kX6_31 tX6_boundOf.2.1 tX6_boundOf.2.2.1 rfl (by first | rfl | assumption) tX6_boundOf.2.2.2 ⟨⟨Nat.le_of_ble_eq_true rfl, Nat.le_of_ble_eq_true rfl⟩, Nat.le_of_ble_eq_true rfl, Nat.le_of_ble_eq_true rfl⟩ rfl (Nat.le_of_ble_eq_true rfl) ?_
      rintro r K' M' P' ⟨rfl, rfl, rfl, hM'⟩
      rw [hM']
      clear hM' M'
      rw [rwc_at]
      refine ev_iload_n dX6_shift_41 rfl ?_
      refine ev_iadd dX6_shift_42 ?_
      refine ev_callv (ci := 6) (c_setBound hs (by omega) (by omega) (by omega) (by omega) _) dX6_shift_43 tX6_setBound.1 kX6_35 tX6_setBound.2.1 tX6_setBound.2.2.1 rfl (by first | rfl | assumption) tX6_setBound.2.2.2 ⟨⟨Nat.le_of_ble_eq_true rfl, Nat.le_of_ble_eq_true rfl⟩, Nat.le_of_ble_eq_true rfl, Nat.le_of_ble_eq_true rfl⟩ rfl (Nat.le_of_ble_eq_true rfl) ?_
      rintro r K' M' P' ⟨rfl, rfl, rfl, hM'⟩
      rw [hM']
      clear hM' M'
      rw [rwc_rwc, rwc_at]
      first | refine ev_aload_n dX6_shift_46 rfl ?_ | refine ev_aloadX_n dX6_shift_46 rfl ?_
      refine ev_iload dX6_shift_47 rfl ?_
      refine ev_iload dX6_shift_49 rfl ?_
      first | refine ev_aload_n dX6_shift_51 rfl ?_ | refine ev_aloadX_n dX6_shift_51 rfl ?_
      refine ev_iload dX6_shift_52 rfl ?_
      refine ev_iload dX6_shift_54 rfl ?_
      refine ev_callv (ci := 6) (c_boundOf hs (by omega) (by omega) (by omega) (by omega) _) dX6_shift_56 tX6_boundOf.1 kX6_31 tX6_boundOf.2.1 tX6_boundOf.2.2.1 rfl (by first | rfl | assumption) tX6_boundOf.2.2.2 ⟨⟨Nat.le_of_ble_eq_true rfl, Nat.le_of_ble_eq_true rfl⟩, Nat.le_of_ble_eq_true rfl, Nat.le_of_ble_eq_true rfl⟩ rfl (Nat.le_of_ble_eq_true rfl) ?_
      rintro r K' M' P' ⟨rfl, rfl, rfl, hM'⟩
      rw [hM']
      clear hM' M'
      rw [rwc_at]
      refine ev_iload_n dX6_shift_59 rfl ?_
      refine ev_isub dX6_shift_60 ?_
      refine ev_callv (ci := 6) (c_setBound hs (by omega) (by omega) (by omega) (by omega) _) dX6_shift_61 tX6_setBound.1 kX6_35 tX6_setBound.2.1 tX6_setBound.2.2.1 rfl (by first | rfl | assumption) tX6_setBound.2.2.2 ⟨⟨Nat.le_of_ble_eq_true rfl, Nat.le_of_ble_eq_true rfl⟩, Nat.le_of_ble_eq_true rfl, Nat.le_of_ble_eq_true rfl⟩ rfl (Nat.le_of_ble_eq_true rfl) ?_
      rintro r K' M' P' ⟨rfl, rfl, rfl, hM'⟩
      rw [hM']
      clear hM' M'
      refine ev_iinc dX6_shift_64 rfl (by decide) ?_
      refine ev_goto (tgt := 12) dX6_shift_67 (by decide) ?_
      refine ev_to hP ⟨rfl, rfl, rfl, rfl, rfl, rfl, trivial⟩ ?_ rfl rfl rfl
      simp only [shR]
      rw [if_neg hq, rwc_rwc, rwc_at, hg]
    · refine ev_goto (tgt := 64) dX6_shift_27 (by decide) ?_
      refine ev_iinc dX6_shift_64 rfl (by decide) ?_
      refine ev_goto (tgt := 12) dX6_shift_67 (by decide) ?_
      refine ev_to hP ⟨rfl, rfl, rfl, rfl, rfl, rfl, trivial⟩ ?_ rfl rfl rfl
      simp only [shR]
      rw [if_pos hq, hg]
