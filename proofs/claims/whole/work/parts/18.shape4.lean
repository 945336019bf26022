/-! ===== Shape: assign, join, meet, widen, isWithin ===== -/
theorem lsR_bd {B a : Int} {f : Int → Int} (h : bdd B f) (hB : 16 ≤ B) : ∀ k : Nat, k ≤ 6 → bdd B (lsR a k f) := by
  intro k
  induction k with
  | zero => intro _; exact h
  | succ k ih =>
    intro hk
    simp only [lsR]
    split
    · exact ih (by omega)
    · exact bdd_st2 (ih (by omega)) (by omega)
theorem lose_bd {B x : Int} {f : Int → Int} (h : bdd B f) (hB : 16 ≤ B) : bdd B (loseF x f) := lsR_bd (lsR_bd h hB 6 (by omega)) hB 6 (by omega)
theorem tnR_bd {B x : Int} {f : Int → Int} (hx : 0 ≤ x) (hx2 : x < 3) (h : bdd B f) : ∀ k : Nat, k ≤ 6 → bdd B (tnR x k f) := by
  intro k
  induction k with
  | zero => intro _; exact h
  | succ k ih =>
    intro hk
    have h1 := ih (by omega)
    simp only [tnR]
    split
    · exact h1
    · exact bdd_st2 (bdd_st2 h1 (h1 _ (by omega) (by omega))) (h1 _ (by omega) (by omega))
theorem turn_bd {B x : Int} {f : Int → Int} (hx : 0 ≤ x) (hx2 : x < 3) (h : bdd B f) : bdd B (turnF x f) := tnR_bd hx hx2 (bdd_st2 (bdd_st2 h (h _ (by omega) (by omega))) (h _ (by omega) (by omega))) 6 (by omega)
def asF (x s z : Int) (f : Int → Int) : Int → Int := if s / 2 = x then shiftF x z f else limF (limF (loseF x f) (2 * x) (nx s) z) (2 * x + 1) s (-z)
def assignF (x s z : Int) (f : Int → Int) : Int → Int := asF x s z (if s = 2 * x + 1 then turnF x f else f)
theorem c_assign {c : Nat} (hs : isSh c) {x q z : Int} (hx : 0 ≤ x) (hx2 : x < 3) (hq : 0 ≤ q) (hq2 : q < 6) (hz : -9 ≤ z) (hz2 : z ≤ 9) (M : Mm) (hB : bdd 100 (M (c + 1))) : Cm mX6_assign [vR c, vI x, vI q, vI z] M (fun r M' => r = none ∧ M' = rwc M (c + 1) (assignF x q z (M (c + 1)))) := by
  obtain ⟨hs1, hs2, hs3⟩ := id hs
  have nq := nx_rng hq hq2
  refine cm_of (by decide +kernel) (fun _ => trivial) (Nat.le_of_ble_eq_true rfl) ?_
  have rest : ∀ g : Int → Int, bdd 100 g → asF x q z g = assignF x q z (M (c + 1)) → Ev mX6_assign 18 [some (vR c), some (vI x), some (vI q), some (vI z), some (vI (2 * x))] [] KK (rwc M (c + 1) g) PP 0 0 (Rz mX6_assign (fun r M' => r = none ∧ M' = rwc M (c + 1) (assignF x q z (M (c + 1))))) := by
    intro g hg hgE
    refine ev_iload_n dX6_assign_18 rfl ?_
    refine ev_iconst dX6_assign_19 ?_
    refine ev_idiv dX6_assign_20 (by omega) (by omega) (by omega) (by omega) ?_
    refine ev_iload_n dX6_assign_21 rfl ?_
    rw [Int.tdiv_eq_ediv_of_nonneg hq]
    refine ev_icmp_ne (tgt := 34) dX6_assign_22 (by decide) (by omega) (by omega) (fun h => ?_) (fun h => ?_)
    · first | refine ev_aload_n dX6_assign_34 rfl ?_ | refine ev_aloadX_n dX6_assign_34 rfl ?_
      refine ev_iload_n dX6_assign_35 rfl ?_
      refine ev_callv (ci := 6) (c_lose hs hx hx2 _) dX6_assign_36 tX6_lose.1 kX6_53 tX6_lose.2.1 tX6_lose.2.2.1 rfl (by first | rfl | assumption) tX6_lose.2.2.2 ⟨⟨Nat.le_of_ble_eq_true rfl, Nat.le_of_ble_eq_true rfl⟩, Nat.le_of_ble_eq_true rfl, Nat.le_of_ble_eq_true rfl⟩ rfl (Nat.le_of_ble_eq_true rfl) ?_
      rintro r K' M' P' ⟨rfl, rfl, rfl, hM'⟩
      rw [hM']
      clear hM' M'
      rw [rwc_rwc, rwc_at]
      have b1 := lose_bd (x := x) hg (by omega)
      first | refine ev_aload_n dX6_assign_39 rfl ?_ | refine ev_aloadX_n dX6_assign_39 rfl ?_
      refine ev_iload dX6_assign_40 rfl ?_
      refine ev_iload_n dX6_assign_42 rfl ?_
      refine ev_iconst dX6_assign_43 ?_
      refine ev_ixor dX6_assign_44 ?_
      refine ev_iload_n dX6_assign_45 rfl ?_
      rw [xor1 hq hq2]
      have b2 := b1 (2 * x * 6 + nx q) (by omega) (by omega)
      refine ev_callv (ci := 6) (c_limit hs (by omega) (by omega) nq.1 nq.2 (by omega) _ (by rw [rwc_at]; omega)) dX6_assign_46 tX6_limit.1 kX6_43 tX6_limit.2.1 tX6_limit.2.2.1 rfl (by first | rfl | assumption) tX6_limit.2.2.2 ⟨⟨Nat.le_of_ble_eq_true rfl, Nat.le_of_ble_eq_true rfl⟩, Nat.le_of_ble_eq_true rfl, Nat.le_of_ble_eq_true rfl⟩ rfl (Nat.le_of_ble_eq_true rfl) ?_
      rintro r K' M' P' ⟨rfl, rfl, rfl, hM'⟩
      rw [hM']
      clear hM' M'
      rw [rwc_rwc, rwc_at]
      have b3 : bdd 100 (limF (loseF x g) (2 * x) (nx q) z) := bdd_lim b1 (by omega)
      have b4 := b3 ((2 * x + 1) * 6 + q) (by omega) (by omega)
      first | refine ev_aload_n dX6_assign_49 rfl ?_ | refine ev_aloadX_n dX6_assign_49 rfl ?_
      refine ev_iload dX6_assign_50 rfl ?_
      refine ev_iconst dX6_assign_52 ?_
      refine ev_iadd dX6_assign_53 ?_
      refine ev_iload_n dX6_assign_54 rfl ?_
      refine ev_iload_n dX6_assign_55 rfl ?_
      refine ev_ineg dX6_assign_56 ?_
      refine ev_callv (ci := 6) (c_limit hs (by omega) (by omega) hq hq2 (by omega) _ (by rw [rwc_at]; omega)) dX6_assign_57 tX6_limit.1 kX6_43 tX6_limit.2.1 tX6_limit.2.2.1 rfl (by first | rfl | assumption) tX6_limit.2.2.2 ⟨⟨Nat.le_of_ble_eq_true rfl, Nat.le_of_ble_eq_true rfl⟩, Nat.le_of_ble_eq_true rfl, Nat.le_of_ble_eq_true rfl⟩ rfl (Nat.le_of_ble_eq_true rfl) ?_
      rintro r K' M' P' ⟨rfl, rfl, rfl, hM'⟩
      rw [hM']
      clear hM' M'
      refine ev_return dX6_assign_60 rfl (rz ⟨rfl, ?_⟩)
      rw [rwc_rwc, rwc_at, ← hgE, asF, if_neg h]
    · first | refine ev_aload_n dX6_assign_25 rfl ?_ | refine ev_aloadX_n dX6_assign_25 rfl ?_
      refine ev_iload_n dX6_assign_26 rfl ?_
      refine ev_iload_n dX6_assign_27 rfl ?_
      refine ev_callv (ci := 6) (c_shift hs hx hx2 hz hz2 _ (by rw [rwc_at]; exact bdd_mono hg (by omega))) dX6_assign_28 tX6_shift.1 kX6_49 tX6_shift.2.1 tX6_shift.2.2.1 rfl (by first | rfl | assumption) tX6_shift.2.2.2 ⟨⟨Nat.le_of_ble_eq_true rfl, Nat.le_of_ble_eq_true rfl⟩, Nat.le_of_ble_eq_true rfl, Nat.le_of_ble_eq_true rfl⟩ rfl (Nat.le_of_ble_eq_true rfl) ?_
      rintro r K' M' P' ⟨rfl, rfl, rfl, hM'⟩
      rw [hM']
      clear hM' M'
      refine ev_goto (tgt := 60) dX6_assign_31 (by decide) ?_
      refine ev_return dX6_assign_60 rfl (rz ⟨rfl, ?_⟩)
      rw [rwc_rwc, rwc_at, ← hgE, asF, if_pos h]
  refine ev_iconst dX6_assign_0 ?_
  refine ev_iload_n dX6_assign_1 rfl ?_
  refine ev_imul dX6_assign_2 ?_
  refine ev_istore dX6_assign_3 (by decide) ?_
  refine ev_iload_n dX6_assign_5 rfl ?_
  refine ev_iload dX6_assign_6 rfl ?_
  refine ev_iconst dX6_assign_8 ?_
  refine ev_iadd dX6_assign_9 ?_
  refine ev_icmp_ne (tgt := 18) dX6_assign_10 (by decide) (by omega) (by omega) (fun h => ?_) (fun h => ?_)
  · refine ev_to (rest (M (c + 1)) hB ?_) ⟨rfl, rfl, rfl, rfl, rfl, trivial⟩ (by rw [rwc_self]) rfl rfl rfl
    rw [assignF, if_neg h]
  · first | refine ev_aload_n dX6_assign_13 rfl ?_ | refine ev_aloadX_n dX6_assign_13 rfl ?_
    refine ev_iload_n dX6_assign_14 rfl ?_
    refine ev_callv (ci := 6) (c_turn hs hx hx2 _) dX6_assign_15 tX6_turn.1 kX6_46 tX6_turn.2.1 tX6_turn.2.2.1 rfl (by first | rfl | assumption) tX6_turn.2.2.2 ⟨⟨Nat.le_of_ble_eq_true rfl, Nat.le_of_ble_eq_true rfl⟩, Nat.le_of_ble_eq_true rfl, Nat.le_of_ble_eq_true rfl⟩ rfl (Nat.le_of_ble_eq_true rfl) ?_
    rintro r K' M' P' ⟨rfl, rfl, rfl, hM'⟩
    rw [hM']
    clear hM' M'
    refine ev_to (rest (turnF x (M (c + 1))) (turn_bd hx hx2 hB) ?_) ⟨rfl, rfl, rfl, rfl, rfl, trivial⟩ rfl rfl rfl rfl
    rw [assignF, if_pos h]
/-- the first i places by a function of two rows -/
def zipS (op : Int → Int → Int) (f h : Int → Int) (i : Nat) : Int → Int := fun j => if 0 ≤ j ∧ j < i then op (f j) (h j) else f j
theorem zipS_0 (op : Int → Int → Int) (f h : Int → Int) : zipS op f h 0 = f := by
  funext j
  unfold zipS
  rw [if_neg (by omega)]
theorem zipS_s (op : Int → Int → Int) (f h : Int → Int) (i : Nat) : up1 (zipS op f h i) i (op (f i) (h i)) = zipS op f h (i + 1) := by
  funext j
  unfold zipS up1
  by_cases hj : j = (i : Int)
  · rw [if_pos hj, if_pos (by omega), hj]
  · rw [if_neg hj]
    dsimp only
    by_cases hl : 0 ≤ j ∧ j < (i : Int)
    · rw [if_pos hl, if_pos (by omega)]
    · rw [if_neg hl, if_neg (by omega)]
theorem zipS_at (op : Int → Int → Int) (f h : Int → Int) (i : Nat) : zipS op f h i i = f i := by
  unfold zipS
  rw [if_neg (by omega)]
/-- what a copy of c2 makes at c -/
def cpM (M : Mm) (c c2 : Nat) : Mm := rwc (rwc M c (up1 (M c) 1 (M c2 1))) (c + 1) (cpS 36 (M (c2 + 1)) (M (c + 1)))
def jnM (M : Mm) (c c2 : Nat) : Mm := if M c2 1 = 1 then M else if M c 1 = 1 then cpM M c c2 else rwc M (c + 1) (zipS max (M (c + 1)) (M (c2 + 1)) 36)
theorem c_join {c c2 : Nat} (hs : isSh c) (hs' : isSh c2) (hcc : c ≠ c2) (M : Mm) (he : M c 1 = 0 ∨ M c 1 = 1) (he2 : M c2 1 = 0 ∨ M c2 1 = 1) (hB : bdd 100000 (M (c + 1))) (hB2 : bdd 100000 (M (c2 + 1))) : Cm mX6_join [vR c, vR c2] M (fun r M' => r = none ∧ M' = jnM M c c2) := by
  obtain ⟨hs1, hs2, hs3⟩ := id hs
  obtain ⟨ht1, ht2, ht3⟩ := id hs'
  refine cm_of (by decide +kernel) (fun _ => trivial) (Nat.le_of_ble_eq_true rfl) ?_
  first | refine ev_aload_n dX6_join_0 rfl ?_ | refine ev_aloadX_n dX6_join_0 rfl ?_
  refine ev_gI 1 dX6_join_1 fX6_15 rfl (by first | rfl | assumption) rfl ?_
  refine ev_if_eq (tgt := 8) dX6_join_4 (by decide) (by omega) (fun h1 => ?_) (fun h1 => ?_)
  · first | refine ev_aload_n dX6_join_8 rfl ?_ | refine ev_aloadX_n dX6_join_8 rfl ?_
    refine ev_gI 1 dX6_join_9 fX6_15 rfl (by first | rfl | assumption) rfl ?_
    refine ev_if_eq (tgt := 21) dX6_join_12 (by decide) (by omega) (fun h2 => ?_) (fun h2 => ?_)
    · refine ev_iconst dX6_join_21 ?_
      refine ev_istore_n dX6_join_22 (by decide) ?_
      refine ev_to (L' := [some (vR c), some (vR c2), some (vI ((0 : Nat) : Int))]) (S' := []) (M' := rwc M (c + 1) (zipS max (M (c + 1)) (M (c2 + 1)) 0)) (k' := 0) (n' := 0) ?_ ⟨rfl, rfl, rfl, trivial⟩ (by rw [zipS_0, rwc_self]) rfl rfl rfl
      refine up_loop (P := fun i => Ev mX6_join 23 [some (vR c), some (vR c2), some (vI (i : Int))] [] KK (rwc M (c + 1) (zipS max (M (c + 1)) (M (c2 + 1)) i)) PP 0 0 _) 36 ?_ ?_
      · refine ev_iload_n dX6_join_23 rfl ?_
        first | refine ev_aload_n dX6_join_24 rfl ?_ | refine ev_aloadX_n dX6_join_24 rfl ?_
        refine ev_getR dX6_join_25 fX6_9 rfl (by first | rfl | assumption) (by first | rfl | assumption) ?_
        refine ev_alen dX6_join_28 (by first | rfl | assumption) ?_
        refine ev_icmp_ge (tgt := 59) dX6_join_29 (by decide) (by omega) (by omega) (fun h => ?_) (fun h => ?_)
        · exact ev_return dX6_join_59 rfl (rz ⟨rfl, by rw [jnM, if_neg (by omega), if_neg (by omega)]⟩)
        · omega
      · intro i hi hP
        have b1 := hB (i : Int) (by omega) (by omega)
        have b2 := hB2 (i : Int) (by omega) (by omega)
        refine ev_iload_n dX6_join_23 rfl ?_
        first | refine ev_aload_n dX6_join_24 rfl ?_ | refine ev_aloadX_n dX6_join_24 rfl ?_
        refine ev_getR dX6_join_25 fX6_9 rfl (by first | rfl | assumption) (by first | rfl | assumption) ?_
        refine ev_alen dX6_join_28 (by first | rfl | assumption) ?_
        refine ev_icmp_ge (tgt := 59) dX6_join_29 (by decide) (by omega) (by omega) (fun h => ?_) (fun h => ?_)
        · omega
        first | refine ev_aload_n dX6_join_32 rfl ?_ | refine ev_aloadX_n dX6_join_32 rfl ?_
        refine ev_getR dX6_join_33 fX6_9 rfl (by first | rfl | assumption) (by first | rfl | assumption) ?_
        refine ev_iload_n dX6_join_36 rfl ?_
        first | refine ev_aload_n dX6_join_37 rfl ?_ | refine ev_aloadX_n dX6_join_37 rfl ?_
        refine ev_getR dX6_join_38 fX6_9 rfl (by first | rfl | assumption) (by first | rfl | assumption) ?_
        refine ev_iload_n dX6_join_41 rfl ?_
        refine ev_iaload dX6_join_42 (by first | rfl | assumption) (by omega) (by omega) (by decide) ?_
        first | refine ev_aload_n dX6_join_43 rfl ?_ | refine ev_aloadX_n dX6_join_43 rfl ?_
        refine ev_getR dX6_join_44 fX6_9 rfl (by first | rfl | assumption) (by first | rfl | assumption) ?_
        refine ev_iload_n dX6_join_47 rfl ?_
        refine ev_iaload dX6_join_48 (by first | rfl | assumption) (by omega) (by omega) (by decide) ?_
        rw [rwc_at, rwc_ne (show c2 + 1 ≠ c + 1 by omega), zipS_at]
        refine ev_calls (c_max (by omega) (by omega) _) dX6_join_49 tJ9_max_7cf53.1 kX6_65 tJ9_max_7cf53.2.1 tJ9_max_7cf53.2.2 ⟨⟨Nat.le_of_ble_eq_true rfl, Nat.le_of_ble_eq_true rfl⟩, Nat.le_of_ble_eq_true rfl, Nat.le_of_ble_eq_true rfl⟩ rfl (Nat.le_of_ble_eq_true rfl) ?_
        rintro r K' M' P' ⟨rfl, rfl, rfl, hM'⟩
        rw [hM']
        clear hM' M'
        refine ev_iastore dX6_join_52 (by first | rfl | assumption) (by omega) (by omega) (by decide) ?_
        refine ev_iinc dX6_join_53 rfl (by decide) ?_
        refine ev_goto (tgt := 23) dX6_join_56 (by decide) ?_
        refine ev_to hP ⟨rfl, rfl, rfl, trivial⟩ ?_ rfl rfl rfl
        rw [upM_rw, rwc_rwc, rwc_at, zipS_s]
    · first | refine ev_aload_n dX6_join_15 rfl ?_ | refine ev_aloadX_n dX6_join_15 rfl ?_
      first | refine ev_aload_n dX6_join_16 rfl ?_ | refine ev_aloadX_n dX6_join_16 rfl ?_
      refine ev_callv (ci := 6) (c_copy hs hs' hcc _ he2) dX6_join_17 tX6_copy.1 kX6_61 tX6_copy.2.1 tX6_copy.2.2.1 rfl (by first | rfl | assumption) tX6_copy.2.2.2 ⟨⟨Nat.le_of_ble_eq_true rfl, Nat.le_of_ble_eq_true rfl⟩, Nat.le_of_ble_eq_true rfl, Nat.le_of_ble_eq_true rfl⟩ rfl (Nat.le_of_ble_eq_true rfl) ?_
      rintro r K' M' P' ⟨rfl, rfl, rfl, hM'⟩
      rw [hM']
      clear hM' M'
      exact ev_return dX6_join_20 rfl (rz ⟨rfl, by rw [jnM, if_neg (by omega), if_pos (by omega)]; rfl⟩)
  · exact ev_return dX6_join_7 rfl (rz ⟨rfl, by rw [jnM, if_pos (by omega)]⟩)
def wdM (M : Mm) (c c2 : Nat) : Mm := if M c 1 = 1 then cpM M c c2 else rwc M (c + 1) (zipS (fun x y => if x < y then 16 else x) (M (c + 1)) (M (c2 + 1)) 36)
theorem c_widen {c c2 : Nat} (hs : isSh c) (hs' : isSh c2) (hcc : c ≠ c2) (M : Mm) (he : M c 1 = 0 ∨ M c 1 = 1) (he2 : M c2 1 = 0 ∨ M c2 1 = 1) (hB : bdd 100000 (M (c + 1))) (hB2 : bdd 100000 (M (c2 + 1))) : Cm mX6_widen [vR c, vR c2] M (fun r M' => r = none ∧ M' = wdM M c c2) := by
  obtain ⟨hs1, hs2, hs3⟩ := id hs
  obtain ⟨ht1, ht2, ht3⟩ := id hs'
  refine cm_of (by decide +kernel) (fun _ => trivial) (Nat.le_of_ble_eq_true rfl) ?_
  first | refine ev_aload_n dX6_widen_0 rfl ?_ | refine ev_aloadX_n dX6_widen_0 rfl ?_
  refine ev_gI 1 dX6_widen_1 fX6_15 rfl (by first | rfl | assumption) rfl ?_
  refine ev_if_eq (tgt := 13) dX6_widen_4 (by decide) (by omega) (fun h2 => ?_) (fun h2 => ?_)
  · refine ev_iconst dX6_widen_13 ?_
    refine ev_istore_n dX6_widen_14 (by decide) ?_
    refine ev_to (L' := [some (vR c), some (vR c2), some (vI ((0 : Nat) : Int))]) (S' := []) (M' := rwc M (c + 1) (zipS (fun x y => if x < y then 16 else x) (M (c + 1)) (M (c2 + 1)) 0)) (k' := 0) (n' := 0) ?_ ⟨rfl, rfl, rfl, trivial⟩ (by rw [zipS_0, rwc_self]) rfl rfl rfl
    refine up_loop (P := fun i => Ev mX6_widen 15 [some (vR c), some (vR c2), some (vI (i : Int))] [] KK (rwc M (c + 1) (zipS (fun x y => if x < y then 16 else x) (M (c + 1)) (M (c2 + 1)) i)) PP 0 0 _) 36 ?_ ?_
    · refine ev_iload_n dX6_widen_15 rfl ?_
      first | refine ev_aload_n dX6_widen_16 rfl ?_ | refine ev_aloadX_n dX6_widen_16 rfl ?_
      refine ev_getR dX6_widen_17 fX6_9 rfl (by first | rfl | assumption) (by first | rfl | assumption) ?_
      refine ev_alen dX6_widen_20 (by first | rfl | assumption) ?_
      refine ev_icmp_ge (tgt := 53) dX6_widen_21 (by decide) (by omega) (by omega) (fun h => ?_) (fun h => ?_)
      · exact ev_return dX6_widen_53 rfl (rz ⟨rfl, by rw [wdM, if_neg (by omega)]⟩)
      · omega
    · intro i hi hP
      have b1 := hB (i : Int) (by omega) (by omega)
      have b2 := hB2 (i : Int) (by omega) (by omega)
      have e := zipS_s (fun x y => if x < y then 16 else x) (M (c + 1)) (M (c2 + 1)) i
      have e2 := zipS_at (fun x y => if x < y then 16 else x) (M (c + 1)) (M (c2 + 1)) i
      generalize zipS (fun x y => if x < y then 16 else x) (M (c + 1)) (M (c2 + 1)) i = u at e e2 ⊢
      refine ev_iload_n dX6_widen_15 rfl ?_
      first | refine ev_aload_n dX6_widen_16 rfl ?_ | refine ev_aloadX_n dX6_widen_16 rfl ?_
      refine ev_getR dX6_widen_17 fX6_9 rfl (by first | rfl | assumption) (by first | rfl | assumption) ?_
      refine ev_alen dX6_widen_20 (by first | rfl | assumption) ?_
      refine ev_icmp_ge (tgt := 53) dX6_widen_21 (by decide) (by omega) (by omega) (fun h => ?_) (fun h => ?_)
      · omega
      first | refine ev_aload_n dX6_widen_24 rfl ?_ | refine ev_aloadX_n dX6_widen_24 rfl ?_
      refine ev_getR dX6_widen_25 fX6_9 rfl (by first | rfl | assumption) (by first | rfl | assumption) ?_
      refine ev_iload_n dX6_widen_28 rfl ?_
      refine ev_iaload dX6_widen_29 (by first | rfl | assumption) (by omega) (by omega) (by decide) ?_
      first | refine ev_aload_n dX6_widen_30 rfl ?_ | refine ev_aloadX_n dX6_widen_30 rfl ?_
      refine ev_getR dX6_widen_31 fX6_9 rfl (by first | rfl | assumption) (by first | rfl | assumption) ?_
      refine ev_iload_n dX6_widen_34 rfl ?_
      refine ev_iaload dX6_widen_35 (by first | rfl | assumption) (by omega) (by omega) (by decide) ?_
      rw [rwc_at, rwc_ne (show c2 + 1 ≠ c + 1 by omega), e2]
      refine ev_icmp_ge (tgt := 47) dX6_widen_36 (by decide) (by omega) (by omega) (fun hq => ?_) (fun hq => ?_)
      · refine ev_iinc dX6_widen_47 rfl (by decide) ?_
        refine ev_goto (tgt := 15) dX6_widen_50 (by decide) ?_
        refine ev_to hP ⟨rfl, rfl, rfl, trivial⟩ ?_ rfl rfl rfl
        rw [← e, if_neg (by omega), ← e2, up1_id]
      · first | refine ev_aload_n dX6_widen_39 rfl ?_ | refine ev_aloadX_n dX6_widen_39 rfl ?_
        refine ev_getR dX6_widen_40 fX6_9 rfl (by first | rfl | assumption) (by first | rfl | assumption) ?_
        refine ev_iload_n dX6_widen_43 rfl ?_
        refine ev_bipush dX6_widen_44 ?_
        refine ev_iastore dX6_widen_46 (by first | rfl | assumption) (by omega) (by omega) (by decide) ?_
        refine ev_iinc dX6_widen_47 rfl (by decide) ?_
        refine ev_goto (tgt := 15) dX6_widen_50 (by decide) ?_
        refine ev_to hP ⟨rfl, rfl, rfl, trivial⟩ ?_ rfl rfl rfl
        rw [upM_rw, rwc_rwc, rwc_at, ← e, if_pos hq]
  · first | refine ev_aload_n dX6_widen_7 rfl ?_ | refine ev_aloadX_n dX6_widen_7 rfl ?_
    first | refine ev_aload_n dX6_widen_8 rfl ?_ | refine ev_aloadX_n dX6_widen_8 rfl ?_
    refine ev_callv (ci := 6) (c_copy hs hs' hcc _ he2) dX6_widen_9 tX6_copy.1 kX6_61 tX6_copy.2.1 tX6_copy.2.2.1 rfl (by first | rfl | assumption) tX6_copy.2.2.2 ⟨⟨Nat.le_of_ble_eq_true rfl, Nat.le_of_ble_eq_true rfl⟩, Nat.le_of_ble_eq_true rfl, Nat.le_of_ble_eq_true rfl⟩ rfl (Nat.le_of_ble_eq_true rfl) ?_
    rintro r K' M' P' ⟨rfl, rfl, rfl, hM'⟩
    rw [hM']
    clear hM' M'
    exact ev_return dX6_widen_12 rfl (rz ⟨rfl, by rw [wdM, if_pos (by omega)]; rfl⟩)
def mtE (M : Mm) (c c2 : Nat) : Int := if M c 1 = 0 ∧ M c2 1 = 0 then 0 else 1
def mtM (M : Mm) (c c2 : Nat) : Mm := clM (rwc (rwc M c (up1 (M c) 1 (mtE M c c2))) (c + 1) (zipS min (M (c + 1)) (M (c2 + 1)) 36)) c
theorem c_meet {c c2 : Nat} (hs : isSh c) (hs' : isSh c2) (hcc : c ≠ c2) (M : Mm) (he : M c 1 = 0 ∨ M c 1 = 1) (he2 : M c2 1 = 0 ∨ M c2 1 = 1) (hB : bdd 100 (M (c + 1))) (hB2 : bdd 100 (M (c2 + 1))) : Cm mX6_meet [vR c, vR c2] M (fun r M' => r = none ∧ M' = mtM M c c2) := by
  obtain ⟨hs1, hs2, hs3⟩ := id hs
  obtain ⟨ht1, ht2, ht3⟩ := id hs'
  have n1 := isSh_ne hs hs'
  refine cm_of (by decide +kernel) (fun _ => trivial) (Nat.le_of_ble_eq_true rfl) ?_
  have hE : mtE M c c2 = 0 ∨ mtE M c c2 = 1 := by unfold mtE; split <;> omega
  have rest : Ev mX6_meet 20 [some (vR c), some (vR c2), none] [vI (mtE M c c2), vR c] KK M PP 0 0 (Rz mX6_meet (fun r M' => r = none ∧ M' = mtM M c c2)) := by
    refine ev_pZ 1 dX6_meet_20 sX6_15 rfl (by first | exact Or.inl rfl | exact Or.inr rfl | assumption) (by first | rfl | assumption) rfl ?_
    refine ev_iconst dX6_meet_23 ?_
    refine ev_istore_n dX6_meet_24 (by decide) ?_
    rw [upM_rw]
    refine ev_to (L' := [some (vR c), some (vR c2), some (vI ((0 : Nat) : Int))]) (S' := []) (M' := rwc (rwc M c (up1 (M c) 1 (mtE M c c2))) (c + 1) (zipS min (M (c + 1)) (M (c2 + 1)) 0)) (k' := 0) (n' := 0) ?_ ⟨rfl, rfl, rfl, trivial⟩ ?_ rfl rfl rfl
    · refine up_loop (P := fun i => Ev mX6_meet 25 [some (vR c), some (vR c2), some (vI (i : Int))] [] KK (rwc (rwc M c (up1 (M c) 1 (mtE M c c2))) (c + 1) (zipS min (M (c + 1)) (M (c2 + 1)) i)) PP 0 0 _) 36 ?_ ?_
      · refine ev_iload_n dX6_meet_25 rfl ?_
        first | refine ev_aload_n dX6_meet_26 rfl ?_ | refine ev_aloadX_n dX6_meet_26 rfl ?_
        refine ev_getR dX6_meet_27 fX6_9 rfl (by first | rfl | assumption) (by first | rfl | assumption) ?_
        refine ev_alen dX6_meet_30 (by first | rfl | assumption) ?_
        refine ev_icmp_ge (tgt := 61) dX6_meet_31 (by decide) (by omega) (by omega) (fun h => ?_) (fun h => ?_)
        · first | refine ev_aload_n dX6_meet_61 rfl ?_ | refine ev_aloadX_n dX6_meet_61 rfl ?_
          refine ev_callv (ci := 6) (c_close hs _ ?_ ?_) dX6_meet_62 tX6_close.1 kX6_68 tX6_close.2.1 tX6_close.2.2.1 rfl (by first | rfl | assumption) tX6_close.2.2.2 ⟨⟨Nat.le_of_ble_eq_true rfl, Nat.le_of_ble_eq_true rfl⟩, Nat.le_of_ble_eq_true rfl, Nat.le_of_ble_eq_true rfl⟩ rfl (Nat.le_of_ble_eq_true rfl) ?_
          · rw [rwc_at]
            intro j q1 q2
            have b1 := hB j q1 q2
            have b2 := hB2 j q1 q2
            unfold zipS
            rw [if_pos (by omega)]
            omega
          · rw [rwc_ne (show c ≠ c + 1 by omega), rwc_at, up1_s]
            exact hE
          · rintro r K' M' P' ⟨rfl, rfl, rfl, hM'⟩
            rw [hM']
            clear hM' M'
            exact ev_return dX6_meet_65 rfl (rz ⟨rfl, rfl⟩)
        · omega
      · intro i hi hP
        have b1 := hB (i : Int) (by omega) (by omega)
        have b2 := hB2 (i : Int) (by omega) (by omega)
        refine ev_iload_n dX6_meet_25 rfl ?_
        first | refine ev_aload_n dX6_meet_26 rfl ?_ | refine ev_aloadX_n dX6_meet_26 rfl ?_
        refine ev_getR dX6_meet_27 fX6_9 rfl (by first | rfl | assumption) (by first | rfl | assumption) ?_
        refine ev_alen dX6_meet_30 (by first | rfl | assumption) ?_
        refine ev_icmp_ge (tgt := 61) dX6_meet_31 (by decide) (by omega) (by omega) (fun h => ?_) (fun h => ?_)
        · omega
        first | refine ev_aload_n dX6_meet_34 rfl ?_ | refine ev_aloadX_n dX6_meet_34 rfl ?_
        refine ev_getR dX6_meet_35 fX6_9 rfl (by first | rfl | assumption) (by first | rfl | assumption) ?_
        refine ev_iload_n dX6_meet_38 rfl ?_
        first | refine ev_aload_n dX6_meet_39 rfl ?_ | refine ev_aloadX_n dX6_meet_39 rfl ?_
        refine ev_getR dX6_meet_40 fX6_9 rfl (by first | rfl | assumption) (by first | rfl | assumption) ?_
        refine ev_iload_n dX6_meet_43 rfl ?_
        refine ev_iaload dX6_meet_44 (by first | rfl | assumption) (by omega) (by omega) (by decide) ?_
        first | refine ev_aload_n dX6_meet_45 rfl ?_ | refine ev_aloadX_n dX6_meet_45 rfl ?_
        refine ev_getR dX6_meet_46 fX6_9 rfl (by first | rfl | assumption) (by first | rfl | assumption) ?_
        refine ev_iload_n dX6_meet_49 rfl ?_
        refine ev_iaload dX6_meet_50 (by first | rfl | assumption) (by omega) (by omega) (by decide) ?_
        rw [rwc_at, rwc_ne (show c2 + 1 ≠ c + 1 by omega), rwc_ne (show c2 + 1 ≠ c from fun z => n1 z.symm), zipS_at]
        refine ev_calls (c_min (by omega) (by omega) _) dX6_meet_51 tJ9_min_7cf53.1 kX6_56 tJ9_min_7cf53.2.1 tJ9_min_7cf53.2.2 ⟨⟨Nat.le_of_ble_eq_true rfl, Nat.le_of_ble_eq_true rfl⟩, Nat.le_of_ble_eq_true rfl, Nat.le_of_ble_eq_true rfl⟩ rfl (Nat.le_of_ble_eq_true rfl) ?_
        rintro r K' M' P' ⟨rfl, rfl, rfl, hM'⟩
        rw [hM']
        clear hM' M'
        refine ev_iastore dX6_meet_54 (by first | rfl | assumption) (by omega) (by omega) (by decide) ?_
        refine ev_iinc dX6_meet_55 rfl (by decide) ?_
        refine ev_goto (tgt := 25) dX6_meet_58 (by decide) ?_
        refine ev_to hP ⟨rfl, rfl, rfl, trivial⟩ ?_ rfl rfl rfl
        rw [upM_rw, rwc_rwc, rwc_at, zipS_s]
    · rw [zipS_0]
      have e : rwc M c (up1 (M c) 1 (mtE M c c2)) (c + 1) = M (c + 1) := rwc_ne (by omega)
      rw [← e, rwc_self]
  first | refine ev_aload_n dX6_meet_0 rfl ?_ | refine ev_aloadX_n dX6_meet_0 rfl ?_
  first | refine ev_aload_n dX6_meet_1 rfl ?_ | refine ev_aloadX_n dX6_meet_1 rfl ?_
  refine ev_gI 1 dX6_meet_2 fX6_15 rfl (by first | rfl | assumption) rfl ?_
  refine ev_if_ne (tgt := 15) dX6_meet_5 (by decide) (by omega) (fun h1 => ?_) (fun h1 => ?_)
  · refine ev_iconst dX6_meet_15 ?_
    refine ev_goto (tgt := 20) dX6_meet_16 (by decide) ?_
    refine ev_to rest ⟨rfl, rfl, trivial⟩ rfl ?_ rfl rfl
    rw [mtE, if_neg (by omega)]
  · first | refine ev_aload_n dX6_meet_8 rfl ?_ | refine ev_aloadX_n dX6_meet_8 rfl ?_
    refine ev_gI 1 dX6_meet_9 fX6_15 rfl (by first | rfl | assumption) rfl ?_
    refine ev_if_eq (tgt := 19) dX6_meet_12 (by decide) (by omega) (fun h2 => ?_) (fun h2 => ?_)
    · refine ev_iconst dX6_meet_19 ?_
      refine ev_to rest ⟨rfl, rfl, trivial⟩ rfl ?_ rfl rfl
      rw [mtE, if_pos (by omega)]
    · refine ev_iconst dX6_meet_15 ?_
      refine ev_goto (tgt := 20) dX6_meet_16 (by decide) ?_
      refine ev_to rest ⟨rfl, rfl, trivial⟩ rfl ?_ rfl rfl
      rw [mtE, if_neg (by omega)]
/-- c within c2 -/
def wth (M : Mm) (c c2 : Nat) : Prop := M c 1 = 1 ∨ (M c 1 = 0 ∧ M c2 1 = 0 ∧ ∀ j, 0 ≤ j → j < 36 → M (c + 1) j ≤ M (c2 + 1) j)
/-- an answer yes or no -/
def yn (A : Prop) (r : Option V) : Prop := ∃ v : Int, r = some (vI v) ∧ (v = 0 ∨ v = 1) ∧ (v = 1 ↔ A)
theorem yn_1 {A : Prop} (h : A) : yn A (some (vI 1)) := ⟨1, rfl, Or.inr rfl, fun _ => h, fun _ => rfl⟩
theorem yn_0 {A : Prop} (h : ¬ A) : yn A (some (vI 0)) := ⟨0, rfl, Or.inl rfl, fun z => by omega, fun z => absurd z h⟩
theorem c_isWithin {c c2 : Nat} (hs : isSh c) (hs' : isSh c2) (M : Mm) (he : M c 1 = 0 ∨ M c 1 = 1) (he2 : M c2 1 = 0 ∨ M c2 1 = 1) (hB : bdd 100000 (M (c + 1))) (hB2 : bdd 100000 (M (c2 + 1))) : Cm mX6_isWithin [vR c, vR c2] M (fun r M' => yn (wth M c c2) r ∧ M' = M) := by
  obtain ⟨hs1, hs2, hs3⟩ := id hs
  obtain ⟨ht1, ht2, ht3⟩ := id hs'
  refine cm_of (by decide +kernel) (fun _ => trivial) (Nat.le_of_ble_eq_true rfl) ?_
  have e1 : M c 1 = 1 → yn (wth M c c2) (some (vI (M c 1))) := fun h => by rw [h]; exact yn_1 (Or.inl h)
  have e2 : M c 1 = 0 → M c2 1 = 1 → yn (wth M c c2) (some (vI (M c 1))) := fun h h' => by
    rw [h]
    refine yn_0 ?_
    rintro (q | ⟨q1, q2, -⟩) <;> omega
  first | refine ev_aload_n dX6_isWithin_0 rfl ?_ | refine ev_aloadX_n dX6_isWithin_0 rfl ?_
  refine ev_gI 1 dX6_isWithin_1 fX6_15 rfl (by first | rfl | assumption) rfl ?_
  refine ev_if_ne (tgt := 14) dX6_isWithin_4 (by decide) (by omega) (fun h1 => ?_) (fun h1 => ?_)
  · first | refine ev_aload_n dX6_isWithin_14 rfl ?_ | refine ev_aloadX_n dX6_isWithin_14 rfl ?_
    refine ev_gI 1 dX6_isWithin_15 fX6_15 rfl (by first | rfl | assumption) rfl ?_
    exact ev_ireturn dX6_isWithin_18 (okR_z rfl (by first | exact Or.inl rfl | exact Or.inr rfl | assumption)) (rz ⟨e1 (by omega), rfl⟩)
  · first | refine ev_aload_n dX6_isWithin_7 rfl ?_ | refine ev_aloadX_n dX6_isWithin_7 rfl ?_
    refine ev_gI 1 dX6_isWithin_8 fX6_15 rfl (by first | rfl | assumption) rfl ?_
    refine ev_if_eq (tgt := 19) dX6_isWithin_11 (by decide) (by omega) (fun h2 => ?_) (fun h2 => ?_)
    · refine ev_iconst dX6_isWithin_19 ?_
      refine ev_istore_n dX6_isWithin_20 (by decide) ?_
      refine ev_to (L' := [some (vR c), some (vR c2), some (vI ((0 : Nat) : Int))]) (S' := []) (M' := M) (k' := 0) (n' := 0) ?_ ⟨rfl, rfl, rfl, trivial⟩ rfl rfl rfl rfl
      refine up_loop (P := fun i => (∀ j : Int, 0 ≤ j → j < i → M (c + 1) j ≤ M (c2 + 1) j) → Ev mX6_isWithin 21 [some (vR c), some (vR c2), some (vI (i : Int))] [] KK M PP 0 0 _) 36 ?_ ?_ (fun j q1 q2 => by omega)
      · intro hall
        refine ev_iload_n dX6_isWithin_21 rfl ?_
        first | refine ev_aload_n dX6_isWithin_22 rfl ?_ | refine ev_aloadX_n dX6_isWithin_22 rfl ?_
        refine ev_getR dX6_isWithin_23 fX6_9 rfl (by first | rfl | assumption) (by first | rfl | assumption) ?_
        refine ev_alen dX6_isWithin_26 (by first | rfl | assumption) ?_
        refine ev_icmp_ge (tgt := 53) dX6_isWithin_27 (by decide) (by omega) (by omega) (fun h => ?_) (fun h => ?_)
        · refine ev_iconst dX6_isWithin_53 ?_
          exact ev_ireturn dX6_isWithin_54 (okR_z rfl (by first | exact Or.inl rfl | exact Or.inr rfl | assumption)) (rz ⟨yn_1 (Or.inr ⟨h1, h2, fun j q1 q2 => hall j q1 (by omega)⟩), rfl⟩)
        · omega
      · intro i hi hP hall
        have b1 := hB (i : Int) (by omega) (by omega)
        have b2 := hB2 (i : Int) (by omega) (by omega)
        refine ev_iload_n dX6_isWithin_21 rfl ?_
        first | refine ev_aload_n dX6_isWithin_22 rfl ?_ | refine ev_aloadX_n dX6_isWithin_22 rfl ?_
        refine ev_getR dX6_isWithin_23 fX6_9 rfl (by first | rfl | assumption) (by first | rfl | assumption) ?_
        refine ev_alen dX6_isWithin_26 (by first | rfl | assumption) ?_
        refine ev_icmp_ge (tgt := 53) dX6_isWithin_27 (by decide) (by omega) (by omega) (fun h => ?_) (fun h => ?_)
        · omega
        first | refine ev_aload_n dX6_isWithin_30 rfl ?_ | refine ev_aloadX_n dX6_isWithin_30 rfl ?_
        refine ev_getR dX6_isWithin_31 fX6_9 rfl (by first | rfl | assumption) (by first | rfl | assumption) ?_
        refine ev_iload_n dX6_isWithin_34 rfl ?_
        refine ev_iaload dX6_isWithin_35 (by first | rfl | assumption) (by omega) (by omega) (by decide) ?_
        first | refine ev_aload_n dX6_isWithin_36 rfl ?_ | refine ev_aloadX_n dX6_isWithin_36 rfl ?_
        refine ev_getR dX6_isWithin_37 fX6_9 rfl (by first | rfl | assumption) (by first | rfl | assumption) ?_
        refine ev_iload_n dX6_isWithin_40 rfl ?_
        refine ev_iaload dX6_isWithin_41 (by first | rfl | assumption) (by omega) (by omega) (by decide) ?_
        refine ev_icmp_le (tgt := 47) dX6_isWithin_42 (by decide) (by omega) (by omega) (fun hq => ?_) (fun hq => ?_)
        · refine ev_iinc dX6_isWithin_47 rfl (by decide) ?_
          refine ev_goto (tgt := 21) dX6_isWithin_50 (by decide) ?_
          refine ev_to (hP fun j q1 q2 => ?_) ⟨rfl, rfl, rfl, trivial⟩ rfl rfl rfl rfl
          by_cases hj : j = (i : Int)
          · rw [hj]; exact hq
          · exact hall j q1 (by omega)
        · refine ev_iconst dX6_isWithin_45 ?_
          refine ev_ireturn dX6_isWithin_46 (okR_z rfl (Or.inl rfl)) (rz ⟨yn_0 ?_, rfl⟩)
          rintro (q | ⟨-, -, q⟩)
          · omega
          · have := q (i : Int) (by omega) (by omega)
            omega
    · first | refine ev_aload_n dX6_isWithin_14 rfl ?_ | refine ev_aloadX_n dX6_isWithin_14 rfl ?_
      refine ev_gI 1 dX6_isWithin_15 fX6_15 rfl (by first | rfl | assumption) rfl ?_
      exact ev_ireturn dX6_isWithin_18 (okR_z rfl (by first | exact Or.inl rfl | exact Or.inr rfl | assumption)) (rz ⟨e2 (by omega) (by omega), rfl⟩)
