/-! ===== Steps, Page, Racks, Seen ===== -/
def isSt (c : Nat) : Prop := KK[c]? = some (.inl 7) ∧ KK[c + 1]? = some (.inr (.inl 6)) ∧ KK[c + 2]? = some (.inr (.inl 6)) ∧ KK[c + 3]? = some (.inr (.inl 6)) ∧ KK[c + 4]? = some (.inr (.inl 6)) ∧ PP c 0 = some (c + 1) ∧ PP c 1 = some (c + 2) ∧ PP c 2 = some (c + 3) ∧ PP c 3 = some (c + 4)
theorem isSt4 : isSt 4 := ⟨rfl, rfl, rfl, rfl, rfl, rfl, rfl, rfl, rfl⟩
theorem isSt9 : isSt 9 := ⟨rfl, rfl, rfl, rfl, rfl, rfl, rfl, rfl, rfl⟩
theorem isSt43 : isSt 43 := ⟨rfl, rfl, rfl, rfl, rfl, rfl, rfl, rfl, rfl⟩
/-- four rows anew -/
def rw4 (M : Mm) (c : Nat) (f1 f2 f3 f4 : Int → Int) : Mm := rwc (rwc (rwc (rwc M (c + 1) f1) (c + 2) f2) (c + 3) f3) (c + 4) f4
theorem rw4_1 (M : Mm) (c : Nat) (f1 f2 f3 f4 : Int → Int) : rw4 M c f1 f2 f3 f4 (c + 1) = f1 := by
  unfold rw4
  rw [rwc_ne (by omega), rwc_ne (by omega), rwc_ne (by omega), rwc_at]
theorem rw4_2 (M : Mm) (c : Nat) (f1 f2 f3 f4 : Int → Int) : rw4 M c f1 f2 f3 f4 (c + 2) = f2 := by
  unfold rw4
  rw [rwc_ne (by omega), rwc_ne (by omega), rwc_at]
theorem rw4_3 (M : Mm) (c : Nat) (f1 f2 f3 f4 : Int → Int) : rw4 M c f1 f2 f3 f4 (c + 3) = f3 := by
  unfold rw4
  rw [rwc_ne (by omega), rwc_at]
theorem rw4_4 (M : Mm) (c : Nat) (f1 f2 f3 f4 : Int → Int) : rw4 M c f1 f2 f3 f4 (c + 4) = f4 := by
  unfold rw4
  rw [rwc_at]
theorem rw4_0 (M : Mm) (c : Nat) (f1 f2 f3 f4 : Int → Int) : rw4 M c f1 f2 f3 f4 c = M c := by
  unfold rw4
  rw [rwc_ne (by omega), rwc_ne (by omega), rwc_ne (by omega), rwc_ne (by omega)]
theorem rw4_self (M : Mm) (c : Nat) : rw4 M c (M (c + 1)) (M (c + 2)) (M (c + 3)) (M (c + 4)) = M := by
  funext q i
  by_cases h1 : q = c + 4
  · subst h1; simp [rw4, rwc]
  · by_cases h2 : q = c + 3
    · subst h2; simp [rw4, rwc]
    · by_cases h3 : q = c + 2
      · subst h3; simp [rw4, rwc]
      · by_cases h4 : q = c + 1
        · subst h4; simp [rw4, rwc]
        · simp [rw4, rwc, h1, h2, h3, h4]
theorem rw4_rw4 (M : Mm) (c : Nat) (f1 f2 f3 f4 h1 h2 h3 h4 : Int → Int) : rw4 (rw4 M c f1 f2 f3 f4) c h1 h2 h3 h4 = rw4 M c h1 h2 h3 h4 := by
  funext q i
  by_cases e1 : q = c + 4
  · subst e1; simp [rw4, rwc]
  · by_cases e2 : q = c + 3
    · subst e2; simp [rw4, rwc]
    · by_cases e3 : q = c + 2
      · subst e3; simp [rw4, rwc]
      · by_cases e4 : q = c + 1
        · subst e4; simp [rw4, rwc]
        · simp [rw4, rwc, e1, e2, e3, e4]
def mvE (f : Int → Int) (i j : Int) : Int → Int := up1 f j (f i)
theorem c_copyStep {c : Nat} (hs : isSt c) {i j : Int} (h1 : 0 ≤ i) (h2 : i < 6) (h3 : 0 ≤ j) (h4 : j < 6) (M : Mm) : Cm mX7_copyStep [vR c, vI i, vI j] M (fun r M' => r = none ∧ M' = rw4 M c (mvE (M (c + 1)) i j) (mvE (M (c + 2)) i j) (mvE (M (c + 3)) i j) (mvE (M (c + 4)) i j)) := by
  obtain ⟨k0, k1, k2, k3, k4, p1, p2, p3, p4⟩ := hs
  refine cm_of (by decide +kernel) (fun _ => trivial) (Nat.le_of_ble_eq_true rfl) ?_
  first | refine ev_aload_n dX7_copyStep_0 rfl ?_ | refine ev_aloadX_n dX7_copyStep_0 rfl ?_
  refine ev_getR dX7_copyStep_1 fX7_9 rfl (by first | rfl | assumption) (by first | rfl | assumption) ?_
  refine ev_iload_n dX7_copyStep_4 rfl ?_
  first | refine ev_aload_n dX7_copyStep_5 rfl ?_ | refine ev_aloadX_n dX7_copyStep_5 rfl ?_
  refine ev_getR dX7_copyStep_6 fX7_9 rfl (by first | rfl | assumption) (by first | rfl | assumption) ?_
  refine ev_iload_n dX7_copyStep_9 rfl ?_
  refine ev_iaload dX7_copyStep_10 (by first | rfl | assumption) (by omega) (by omega) (by decide) ?_
  refine ev_iastore dX7_copyStep_11 (by first | rfl | assumption) (by omega) (by omega) (by decide) ?_
  first | refine ev_aload_n dX7_copyStep_12 rfl ?_ | refine ev_aloadX_n dX7_copyStep_12 rfl ?_
  refine ev_getR dX7_copyStep_13 fX7_15 rfl (by first | rfl | assumption) (by first | rfl | assumption) ?_
  refine ev_iload_n dX7_copyStep_16 rfl ?_
  first | refine ev_aload_n dX7_copyStep_17 rfl ?_ | refine ev_aloadX_n dX7_copyStep_17 rfl ?_
  refine ev_getR dX7_copyStep_18 fX7_15 rfl (by first | rfl | assumption) (by first | rfl | assumption) ?_
  refine ev_iload_n dX7_copyStep_21 rfl ?_
  refine ev_iaload dX7_copyStep_22 (by first | rfl | assumption) (by omega) (by omega) (by decide) ?_
  refine ev_iastore dX7_copyStep_23 (by first | rfl | assumption) (by omega) (by omega) (by decide) ?_
  first | refine ev_aload_n dX7_copyStep_24 rfl ?_ | refine ev_aloadX_n dX7_copyStep_24 rfl ?_
  refine ev_getR dX7_copyStep_25 fX7_18 rfl (by first | rfl | assumption) (by first | rfl | assumption) ?_
  refine ev_iload_n dX7_copyStep_28 rfl ?_
  first | refine ev_aload_n dX7_copyStep_29 rfl ?_ | refine ev_aloadX_n dX7_copyStep_29 rfl ?_
  refine ev_getR dX7_copyStep_30 fX7_18 rfl (by first | rfl | assumption) (by first | rfl | assumption) ?_
  refine ev_iload_n dX7_copyStep_33 rfl ?_
  refine ev_iaload dX7_copyStep_34 (by first | rfl | assumption) (by omega) (by omega) (by decide) ?_
  refine ev_iastore dX7_copyStep_35 (by first | rfl | assumption) (by omega) (by omega) (by decide) ?_
  first | refine ev_aload_n dX7_copyStep_36 rfl ?_ | refine ev_aloadX_n dX7_copyStep_36 rfl ?_
  refine ev_getR dX7_copyStep_37 fX7_21 rfl (by first | rfl | assumption) (by first | rfl | assumption) ?_
  refine ev_iload_n dX7_copyStep_40 rfl ?_
  first | refine ev_aload_n dX7_copyStep_41 rfl ?_ | refine ev_aloadX_n dX7_copyStep_41 rfl ?_
  refine ev_getR dX7_copyStep_42 fX7_21 rfl (by first | rfl | assumption) (by first | rfl | assumption) ?_
  refine ev_iload_n dX7_copyStep_45 rfl ?_
  refine ev_iaload dX7_copyStep_46 (by first | rfl | assumption) (by omega) (by omega) (by decide) ?_
  refine ev_iastore dX7_copyStep_47 (by first | rfl | assumption) (by omega) (by omega) (by decide) ?_
  refine ev_return dX7_copyStep_48 rfl (rz ⟨rfl, ?_⟩)
  simp only [upM_rw]
  unfold rw4 mvE
  congr 1
  · congr 1
    · congr 1
      · rw [rwc_ne (show c + 2 ≠ c + 1 by omega)]
    · rw [rwc_ne (show c + 3 ≠ c + 2 by omega), rwc_ne (show c + 3 ≠ c + 1 by omega)]
  · rw [rwc_ne (show c + 4 ≠ c + 3 by omega), rwc_ne (show c + 4 ≠ c + 2 by omega), rwc_ne (show c + 4 ≠ c + 1 by omega)]
theorem c_stCopy {c c2 : Nat} (hs : isSt c) (hs' : isSt c2) (hd1 : c + 4 < c2 ∨ c2 + 4 < c) (M : Mm) : Cm mX7_copy [vR c, vR c2] M (fun r M' => r = none ∧ M' = rw4 (rwc M c (up1 (M c) 4 (M c2 4))) c (cpS 6 (M (c2 + 1)) (M (c + 1))) (cpS 6 (M (c2 + 2)) (M (c + 2))) (cpS 6 (M (c2 + 3)) (M (c + 3))) (cpS 6 (M (c2 + 4)) (M (c + 4)))) := by
  obtain ⟨k0, k1, k2, k3, k4, p1, p2, p3, p4⟩ := hs
  obtain ⟨l0, l1, l2, l3, l4, o1, o2, o3, o4⟩ := hs'
  refine cm_of (by decide +kernel) (fun _ => trivial) (Nat.le_of_ble_eq_true rfl) ?_
  first | refine ev_aload_n dX7_copy_0 rfl ?_ | refine ev_aloadX_n dX7_copy_0 rfl ?_
  first | refine ev_aload_n dX7_copy_1 rfl ?_ | refine ev_aloadX_n dX7_copy_1 rfl ?_
  refine ev_gI 4 dX7_copy_2 fX7_24 rfl (by first | rfl | assumption) rfl ?_
  refine ev_pI 4 dX7_copy_5 sX7_24 rfl (by first | rfl | assumption) rfl ?_
  first | refine ev_aload_n dX7_copy_8 rfl ?_ | refine ev_aloadX_n dX7_copy_8 rfl ?_
  refine ev_getR dX7_copy_9 fX7_9 rfl (by first | rfl | assumption) (by first | rfl | assumption) ?_
  refine ev_iconst dX7_copy_12 ?_
  first | refine ev_aload_n dX7_copy_13 rfl ?_ | refine ev_aloadX_n dX7_copy_13 rfl ?_
  refine ev_getR dX7_copy_14 fX7_9 rfl (by first | rfl | assumption) (by first | rfl | assumption) ?_
  refine ev_iconst dX7_copy_17 ?_
  refine ev_bipush dX7_copy_18 ?_
  refine ev_acopy (K0 := l1) (K1 := k1) (n0 := 6) (n1 := 6) dX7_copy_20 aX7_28 (by omega) (by omega) (by omega) (by decide) (by decide) (by decide) ?_
  first | refine ev_aload_n dX7_copy_23 rfl ?_ | refine ev_aloadX_n dX7_copy_23 rfl ?_
  refine ev_getR dX7_copy_24 fX7_15 rfl (by first | rfl | assumption) (by first | rfl | assumption) ?_
  refine ev_iconst dX7_copy_27 ?_
  first | refine ev_aload_n dX7_copy_28 rfl ?_ | refine ev_aloadX_n dX7_copy_28 rfl ?_
  refine ev_getR dX7_copy_29 fX7_15 rfl (by first | rfl | assumption) (by first | rfl | assumption) ?_
  refine ev_iconst dX7_copy_32 ?_
  refine ev_bipush dX7_copy_33 ?_
  refine ev_acopy (K0 := l2) (K1 := k2) (n0 := 6) (n1 := 6) dX7_copy_35 aX7_28 (by omega) (by omega) (by omega) (by decide) (by decide) (by decide) ?_
  first | refine ev_aload_n dX7_copy_38 rfl ?_ | refine ev_aloadX_n dX7_copy_38 rfl ?_
  refine ev_getR dX7_copy_39 fX7_18 rfl (by first | rfl | assumption) (by first | rfl | assumption) ?_
  refine ev_iconst dX7_copy_42 ?_
  first | refine ev_aload_n dX7_copy_43 rfl ?_ | refine ev_aloadX_n dX7_copy_43 rfl ?_
  refine ev_getR dX7_copy_44 fX7_18 rfl (by first | rfl | assumption) (by first | rfl | assumption) ?_
  refine ev_iconst dX7_copy_47 ?_
  refine ev_bipush dX7_copy_48 ?_
  refine ev_acopy (K0 := l3) (K1 := k3) (n0 := 6) (n1 := 6) dX7_copy_50 aX7_28 (by omega) (by omega) (by omega) (by decide) (by decide) (by decide) ?_
  first | refine ev_aload_n dX7_copy_53 rfl ?_ | refine ev_aloadX_n dX7_copy_53 rfl ?_
  refine ev_getR dX7_copy_54 fX7_21 rfl (by first | rfl | assumption) (by first | rfl | assumption) ?_
  refine ev_iconst dX7_copy_57 ?_
  first | refine ev_aload_n dX7_copy_58 rfl ?_ | refine ev_aloadX_n dX7_copy_58 rfl ?_
  refine ev_getR dX7_copy_59 fX7_21 rfl (by first | rfl | assumption) (by first | rfl | assumption) ?_
  refine ev_iconst dX7_copy_62 ?_
  refine ev_bipush dX7_copy_63 ?_
  refine ev_acopy (K0 := l4) (K1 := k4) (n0 := 6) (n1 := 6) dX7_copy_65 aX7_28 (by omega) (by omega) (by omega) (by decide) (by decide) (by decide) ?_
  refine ev_return dX7_copy_68 rfl (rz ⟨rfl, ?_⟩)
  rw [upM_rw]
  have e1 : rwc M c (up1 (M c) 4 (M c2 4)) (c2 + 1) = M (c2 + 1) := rwc_ne (by omega)
  have e2 : rwc M c (up1 (M c) 4 (M c2 4)) (c + 1) = M (c + 1) := rwc_ne (by omega)
  have e3 : rwc M c (up1 (M c) 4 (M c2 4)) (c2 + 2) = M (c2 + 2) := rwc_ne (by omega)
  have e4 : rwc M c (up1 (M c) 4 (M c2 4)) (c + 2) = M (c + 2) := rwc_ne (by omega)
  have e5 : rwc M c (up1 (M c) 4 (M c2 4)) (c2 + 3) = M (c2 + 3) := rwc_ne (by omega)
  have e6 : rwc M c (up1 (M c) 4 (M c2 4)) (c + 3) = M (c + 3) := rwc_ne (by omega)
  have e7 : rwc M c (up1 (M c) 4 (M c2 4)) (c2 + 4) = M (c2 + 4) := rwc_ne (by omega)
  have e8 : rwc M c (up1 (M c) 4 (M c2 4)) (c + 4) = M (c + 4) := rwc_ne (by omega)
  generalize rwc M c (up1 (M c) 4 (M c2 4)) = N at *
  unfold rw4
  rw [e1, e2]
  rw [rwc_ne (show c2 + 2 ≠ c + 1 by omega), rwc_ne (show c + 2 ≠ c + 1 by omega), e3, e4]
  rw [rwc_ne (show c2 + 3 ≠ c + 2 by omega), rwc_ne (show c2 + 3 ≠ c + 1 by omega), rwc_ne (show c + 3 ≠ c + 2 by omega), rwc_ne (show c + 3 ≠ c + 1 by omega), e5, e6]
  rw [rwc_ne (show c2 + 4 ≠ c + 3 by omega), rwc_ne (show c2 + 4 ≠ c + 2 by omega), rwc_ne (show c2 + 4 ≠ c + 1 by omega), rwc_ne (show c + 4 ≠ c + 3 by omega), rwc_ne (show c + 4 ≠ c + 2 by omega), rwc_ne (show c + 4 ≠ c + 1 by omega), e7, e8]
/-- rows moved up by one from i on; a loop's first digit may grow -/
def bmp (kf f : Int → Int) (p j : Int) : Int := if kf j = 4 ∧ p < f j then 1 else 0
def upK (f : Int → Int) (i n : Int) : Int → Int := fun j => if i < j ∧ j ≤ n then f (j - 1) else f j
def upF (kf f : Int → Int) (p i n : Int) : Int → Int := fun j => if i < j ∧ j ≤ n then f (j - 1) + bmp kf f p (j - 1) else f j
def insM (M : Mm) (c : Nat) (p kd a b z : Int) : Mm := rwc (rw4 M c (up1 (upK (M (c + 1)) p (M c 4)) p kd) (up1 (upF (M (c + 1)) (M (c + 2)) p p (M c 4)) p a) (up1 (upK (M (c + 3)) p (M c 4)) p b) (up1 (upK (M (c + 4)) p (M c 4)) p z)) c (up1 (M c) 4 (M c 4 + 1))
theorem upK_id (f : Int → Int) (n : Int) : upK f n n = f := by
  funext j
  unfold upK
  rw [if_neg (by omega)]
theorem upF_id (kf f : Int → Int) (p n : Int) : upF kf f p n n = f := by
  funext j
  unfold upF
  rw [if_neg (by omega)]
theorem upK_s (f : Int → Int) {i n : Int} (hi : i < n) : mvE (upK f (i + 1) n) i (i + 1) = upK f i n := by
  funext j
  unfold mvE up1 upK
  by_cases hj : j = i + 1
  · rw [if_pos hj, if_neg (by omega), if_pos (by omega), hj]
    congr 1
    omega
  · rw [if_neg hj]
    try dsimp only
    by_cases hl : i + 1 < j ∧ j ≤ n
    · rw [if_pos hl, if_pos (by omega)]
    · rw [if_neg hl, if_neg (by omega)]
theorem c_insert {c : Nat} (hs : isSt c) {p kd a b z : Int} (M : Mm) (hn0 : 0 ≤ M c 4) (hn : M c 4 ≤ 5) (hp : 0 ≤ p) (hp2 : p ≤ M c 4) (hR1 : ∀ j, 0 ≤ j → j < 6 → inR (M (c + 1) j)) (hR2 : ∀ j, 0 ≤ j → j < 6 → -1000 ≤ M (c + 2) j ∧ M (c + 2) j ≤ 1000) : Cm mX7_insert [vR c, vI p, vI kd, vI a, vI b, vI z] M (fun r M' => r = none ∧ M' = insM M c p kd a b z) := by
  obtain ⟨k0, k1, k2, k3, k4, p1, p2, p3, p4⟩ := id hs
  refine cm_of (by decide +kernel) (fun _ => trivial) (Nat.le_of_ble_eq_true rfl) ?_
  first | refine ev_aload_n dX7_insert_0 rfl ?_ | refine ev_aloadX_n dX7_insert_0 rfl ?_
  refine ev_gI 4 dX7_insert_1 fX7_24 rfl (by first | rfl | assumption) rfl ?_
  refine ev_istore dX7_insert_4 (by decide) ?_
  obtain ⟨N, hN⟩ : ∃ N : Nat, M c 4 - p = N := ⟨(M c 4 - p).toNat, by omega⟩
  refine ev_to (L' := [some (vR c), some (vI p), some (vI kd), some (vI a), some (vI b), some (vI z), some (vI (M c 4 - ((0 : Nat) : Int)))]) (S' := []) (M' := rw4 M c (upK (M (c + 1)) (M c 4 - ((0 : Nat) : Int)) (M c 4)) (upF (M (c + 1)) (M (c + 2)) p (M c 4 - ((0 : Nat) : Int)) (M c 4)) (upK (M (c + 3)) (M c 4 - ((0 : Nat) : Int)) (M c 4)) (upK (M (c + 4)) (M c 4 - ((0 : Nat) : Int)) (M c 4))) (k' := 0) (n' := 0) ?_ ⟨rfl, rfl, rfl, rfl, rfl, rfl, ?_, trivial⟩ ?_ rfl rfl rfl
  · refine up_loop (P := fun t => Ev mX7_insert 6 [some (vR c), some (vI p), some (vI kd), some (vI a), some (vI b), some (vI z), some (vI (M c 4 - (t : Int)))] [] KK (rw4 M c (upK (M (c + 1)) (M c 4 - (t : Int)) (M c 4)) (upF (M (c + 1)) (M (c + 2)) p (M c 4 - (t : Int)) (M c 4)) (upK (M (c + 3)) (M c 4 - (t : Int)) (M c 4)) (upK (M (c + 4)) (M c 4 - (t : Int)) (M c 4))) PP 0 0 _) N ?_ ?_
    · have e : M c 4 - (N : Int) = p := by omega
      rw [e]
      refine ev_iload dX7_insert_6 rfl ?_
      refine ev_iload_n dX7_insert_8 rfl ?_
      refine ev_icmp_le (tgt := 61) dX7_insert_9 (by decide) (by omega) (by omega) (fun h => ?_) (fun h => ?_)
      · first | refine ev_aload_n dX7_insert_61 rfl ?_ | refine ev_aloadX_n dX7_insert_61 rfl ?_
        refine ev_getR dX7_insert_62 fX7_9 rfl (by first | rfl | assumption) (by first | rfl | assumption) ?_
        refine ev_iload_n dX7_insert_65 rfl ?_
        refine ev_iload_n dX7_insert_66 rfl ?_
        refine ev_iastore dX7_insert_67 (by first | rfl | assumption) (by omega) (by omega) (by decide) ?_
        first | refine ev_aload_n dX7_insert_68 rfl ?_ | refine ev_aloadX_n dX7_insert_68 rfl ?_
        refine ev_getR dX7_insert_69 fX7_15 rfl (by first | rfl | assumption) (by first | rfl | assumption) ?_
        refine ev_iload_n dX7_insert_72 rfl ?_
        refine ev_iload_n dX7_insert_73 rfl ?_
        refine ev_iastore dX7_insert_74 (by first | rfl | assumption) (by omega) (by omega) (by decide) ?_
        first | refine ev_aload_n dX7_insert_75 rfl ?_ | refine ev_aloadX_n dX7_insert_75 rfl ?_
        refine ev_getR dX7_insert_76 fX7_18 rfl (by first | rfl | assumption) (by first | rfl | assumption) ?_
        refine ev_iload_n dX7_insert_79 rfl ?_
        refine ev_iload dX7_insert_80 rfl ?_
        refine ev_iastore dX7_insert_82 (by first | rfl | assumption) (by omega) (by omega) (by decide) ?_
        first | refine ev_aload_n dX7_insert_83 rfl ?_ | refine ev_aloadX_n dX7_insert_83 rfl ?_
        refine ev_getR dX7_insert_84 fX7_21 rfl (by first | rfl | assumption) (by first | rfl | assumption) ?_
        refine ev_iload_n dX7_insert_87 rfl ?_
        refine ev_iload dX7_insert_88 rfl ?_
        refine ev_iastore dX7_insert_90 (by first | rfl | assumption) (by omega) (by omega) (by decide) ?_
        first | refine ev_aload_n dX7_insert_91 rfl ?_ | refine ev_aloadX_n dX7_insert_91 rfl ?_
        refine ev_dup dX7_insert_92 ?_
        refine ev_gI 4 dX7_insert_93 fX7_24 rfl (by first | rfl | assumption) rfl ?_
        refine ev_iconst dX7_insert_96 ?_
        refine ev_iadd dX7_insert_97 ?_
        refine ev_pI 4 dX7_insert_98 sX7_24 rfl (by first | rfl | assumption) rfl ?_
        refine ev_return dX7_insert_101 rfl (rz ⟨rfl, ?_⟩)
        simp only [upM_rw]
        unfold insM
        generalize hA : upK (M (c + 1)) p (M c 4) = A1
        generalize upF (M (c + 1)) (M (c + 2)) p p (M c 4) = A2
        generalize upK (M (c + 3)) p (M c 4) = A3
        generalize upK (M (c + 4)) p (M c 4) = A4
        rw [rw4_1]
        have f2 : rwc (rw4 M c A1 A2 A3 A4) (c + 1) (up1 A1 p kd) (c + 2) = A2 := by rw [rwc_ne (by omega), rw4_2]
        rw [f2]
        have f3 : rwc (rwc (rw4 M c A1 A2 A3 A4) (c + 1) (up1 A1 p kd)) (c + 2) (up1 A2 p a) (c + 3) = A3 := by rw [rwc_ne (by omega), rwc_ne (by omega), rw4_3]
        rw [f3]
        have f4 : rwc (rwc (rwc (rw4 M c A1 A2 A3 A4) (c + 1) (up1 A1 p kd)) (c + 2) (up1 A2 p a)) (c + 3) (up1 A3 p b) (c + 4) = A4 := by rw [rwc_ne (by omega), rwc_ne (by omega), rwc_ne (by omega), rw4_4]
        rw [f4]
        have f5 : rwc (rwc (rwc (rwc (rw4 M c A1 A2 A3 A4) (c + 1) (up1 A1 p kd)) (c + 2) (up1 A2 p a)) (c + 3) (up1 A3 p b)) (c + 4) (up1 A4 p z) = rw4 M c (up1 A1 p kd) (up1 A2 p a) (up1 A3 p b) (up1 A4 p z) := rw4_rw4 M c A1 A2 A3 A4 _ _ _ _
        rw [f5, rw4_0]
      · omega
    · intro t ht hP
      have ei : M c 4 - ((t + 1 : Nat) : Int) = M c 4 - (t : Int) - 1 := by omega
      rw [ei] at hP
      generalize hi : M c 4 - (t : Int) = i at hP ⊢
      have hi1 : p < i := by omega
      have hi2 : i ≤ M c 4 := by omega
      have s1 := upK_s (M (c + 1)) (i := i - 1) (n := M c 4) (by omega)
      have s3 := upK_s (M (c + 3)) (i := i - 1) (n := M c 4) (by omega)
      have s4 := upK_s (M (c + 4)) (i := i - 1) (n := M c 4) (by omega)
      have e0 : i - 1 + 1 = i := by omega
      rw [e0] at s1 s3 s4
      have v1 : upK (M (c + 1)) (i - 1) (M c 4) i = M (c + 1) (i - 1) := by unfold upK; rw [if_pos (by omega)]
      have v2 : mvE (upF (M (c + 1)) (M (c + 2)) p i (M c 4)) (i - 1) i i = M (c + 2) (i - 1) := by unfold mvE; rw [up1_s]; unfold upF; rw [if_neg (by omega)]
      have b1 := hR1 (i - 1) (by omega) (by omega)
      have b2 := hR2 (i - 1) (by omega) (by omega)
      have fE : ∀ w, w = bmp (M (c + 1)) (M (c + 2)) p (i - 1) → up1 (mvE (upF (M (c + 1)) (M (c + 2)) p i (M c 4)) (i - 1) i) i (M (c + 2) (i - 1) + w) = upF (M (c + 1)) (M (c + 2)) p (i - 1) (M c 4) := by
        intro w hw
        funext j
        unfold mvE up1
        by_cases hj : j = i
        · rw [if_pos hj, hj]
          unfold upF
          rw [if_pos (by omega), hw]
        · rw [if_neg hj]
          try dsimp only
          rw [if_neg hj]
          unfold upF
          by_cases hl : i < j ∧ j ≤ M c 4
          · rw [if_pos hl, if_pos (by omega)]
          · rw [if_neg hl, if_neg (by omega)]
      refine ev_iload dX7_insert_6 rfl ?_
      refine ev_iload_n dX7_insert_8 rfl ?_
      refine ev_icmp_le (tgt := 61) dX7_insert_9 (by decide) (by omega) (by omega) (fun h => ?_) (fun h => ?_)
      · omega
      first | refine ev_aload_n dX7_insert_12 rfl ?_ | refine ev_aloadX_n dX7_insert_12 rfl ?_
      refine ev_iload dX7_insert_13 rfl ?_
      refine ev_iconst dX7_insert_15 ?_
      refine ev_isub dX7_insert_16 ?_
      refine ev_iload dX7_insert_17 rfl ?_
      refine ev_callv (ci := 7) (c_copyStep hs (by omega) (by omega) (by omega) (by omega) _) dX7_insert_19 tX7_copyStep.1 kX7_34 tX7_copyStep.2.1 tX7_copyStep.2.2.1 rfl (by first | rfl | assumption) tX7_copyStep.2.2.2 ⟨⟨Nat.le_of_ble_eq_true rfl, Nat.le_of_ble_eq_true rfl⟩, Nat.le_of_ble_eq_true rfl, Nat.le_of_ble_eq_true rfl⟩ rfl (Nat.le_of_ble_eq_true rfl) ?_
      rintro r K' M' P' ⟨rfl, rfl, rfl, hM'⟩
      rw [hM']
      clear hM' M'
      rw [rw4_1, rw4_2, rw4_3, rw4_4, rw4_rw4, s1, s3, s4]
      have fin : ∀ w, w = bmp (M (c + 1)) (M (c + 2)) p (i - 1) → Ev mX7_insert 55 [some (vR c), some (vI p), some (vI kd), some (vI a), some (vI b), some (vI z), some (vI i)] [] KK (rw4 M c (upK (M (c + 1)) (i - 1) (M c 4)) (up1 (mvE (upF (M (c + 1)) (M (c + 2)) p i (M c 4)) (i - 1) i) i (M (c + 2) (i - 1) + w)) (upK (M (c + 3)) (i - 1) (M c 4)) (upK (M (c + 4)) (i - 1) (M c 4))) PP 0 0 (Rz mX7_insert (fun r M' => r = none ∧ M' = insM M c p kd a b z)) := by
        intro w hw
        rw [fE w hw]
        refine ev_iinc dX7_insert_55 rfl (by decide) ?_
        refine ev_goto (tgt := 6) dX7_insert_58 (by decide) ?_
        exact ev_to hP ⟨rfl, rfl, rfl, rfl, rfl, rfl, rfl, trivial⟩ rfl rfl rfl rfl
      have fin0 : ¬ (M (c + 1) (i - 1) = 4 ∧ p < M (c + 2) (i - 1)) → Ev mX7_insert 55 [some (vR c), some (vI p), some (vI kd), some (vI a), some (vI b), some (vI z), some (vI i)] [] KK (rw4 M c (upK (M (c + 1)) (i - 1) (M c 4)) (mvE (upF (M (c + 1)) (M (c + 2)) p i (M c 4)) (i - 1) i) (upK (M (c + 3)) (i - 1) (M c 4)) (upK (M (c + 4)) (i - 1) (M c 4))) PP 0 0 (Rz mX7_insert (fun r M' => r = none ∧ M' = insM M c p kd a b z)) := by
        intro hq
        have := fin 0 (by rw [bmp, if_neg hq])
        rw [Int.add_zero, ← v2, up1_id] at this
        exact this
      first | refine ev_aload_n dX7_insert_22 rfl ?_ | refine ev_aloadX_n dX7_insert_22 rfl ?_
      refine ev_getR dX7_insert_23 fX7_9 rfl (by first | rfl | assumption) (by first | rfl | assumption) ?_
      refine ev_iload dX7_insert_26 rfl ?_
      refine ev_iaload dX7_insert_28 (by first | rfl | assumption) (by omega) (by omega) (by decide) ?_
      refine ev_iconst dX7_insert_29 ?_
      rw [rw4_1, v1]
      refine ev_icmp_ne (tgt := 55) dX7_insert_30 (by decide) (by omega) (by omega) (fun hq1 => ?_) (fun hq1 => ?_)
      · exact fin0 (fun z => hq1 z.1)
      first | refine ev_aload_n dX7_insert_33 rfl ?_ | refine ev_aloadX_n dX7_insert_33 rfl ?_
      refine ev_getR dX7_insert_34 fX7_15 rfl (by first | rfl | assumption) (by first | rfl | assumption) ?_
      refine ev_iload dX7_insert_37 rfl ?_
      refine ev_iaload dX7_insert_39 (by first | rfl | assumption) (by omega) (by omega) (by decide) ?_
      refine ev_iload_n dX7_insert_40 rfl ?_
      rw [rw4_2, v2]
      refine ev_icmp_le (tgt := 55) dX7_insert_41 (by decide) (by omega) (by omega) (fun hq2 => ?_) (fun hq2 => ?_)
      · exact fin0 (fun z => by have := z.2; omega)
      first | refine ev_aload_n dX7_insert_44 rfl ?_ | refine ev_aloadX_n dX7_insert_44 rfl ?_
      refine ev_getR dX7_insert_45 fX7_15 rfl (by first | rfl | assumption) (by first | rfl | assumption) ?_
      refine ev_iload dX7_insert_48 rfl ?_
      refine ev_dup2 dX7_insert_50 ?_
      refine ev_iaload dX7_insert_51 (by first | rfl | assumption) (by omega) (by omega) (by decide) ?_
      refine ev_iconst dX7_insert_52 ?_
      refine ev_iadd dX7_insert_53 ?_
      refine ev_iastore dX7_insert_54 (by first | rfl | assumption) (by omega) (by omega) (by decide) ?_
      rw [rw4_2, v2, upM_rw, rw4_2]
      refine ev_to (fin 1 (by rw [bmp, if_pos ⟨hq1, hq2⟩])) ⟨rfl, rfl, rfl, rfl, rfl, rfl, rfl, trivial⟩ ?_ rfl rfl rfl
      generalize up1 (mvE (upF (M (c + 1)) (M (c + 2)) p i (M c 4)) (i - 1) i) i (M (c + 2) (i - 1) + 1) = G
      unfold rw4
      rw [rwc_comm (show c + 4 ≠ c + 2 by omega), rwc_comm (show c + 3 ≠ c + 2 by omega), rwc_rwc]
  · show some (some (vI (M c 4))) = some (some (vI (M c 4 - 0)))
    rw [Int.sub_zero]
  · show M = _
    have e : M c 4 - ((0 : Nat) : Int) = M c 4 := by omega
    rw [e, upK_id, upF_id, upK_id, upK_id, rw4_self]
