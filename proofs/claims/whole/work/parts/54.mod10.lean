/-! ===== the reference: sorts, questions, steps told ===== -/
theorem k_sortsBy {w : Int} (h0 : 0 ≤ w) (h1 : w ≤ 3) (M : Mm) : Cm mX9_sortsBy [vI w] M (fun r M' => r = some (vI (s_could.getD w.toNat 0)) ∧ M' = M) := by
  have e3 : ∀ z : Int, (z < 0 ∨ 2 < z) → 0 ≤ z → z ≤ 3 → z = 3 := fun z a b c => by omega
  refine cm_of (by decide +kernel) (fun _ => trivial) (Nat.le_of_ble_eq_true rfl) ?_
  refine ev_iload_n dX9_sortsBy_0 rfl ?_
  rcases (by omega : w = 0 ∨ w = 1 ∨ w = 2 ∨ (w < 0 ∨ 2 < w)) with h1 | h1 | h1 | h1
  · refine ev_tableIn (off := 27) (tgt := 28) dX9_sortsBy_1 (by omega) (by omega) (by omega) (by rw [h1]; rfl) (by decide) ?_
    refine ev_bipush dX9_sortsBy_28 ?_
    exact ev_ireturn dX9_sortsBy_30 ⟨_, rfl, rfl⟩ (rz ⟨by first | (rw [h1]; rfl) | (rw [e3 w (by omega) (by omega) (by omega)]; rfl), rfl⟩)
  · refine ev_tableIn (off := 30) (tgt := 31) dX9_sortsBy_1 (by omega) (by omega) (by omega) (by rw [h1]; rfl) (by decide) ?_
    refine ev_bipush dX9_sortsBy_31 ?_
    exact ev_ireturn dX9_sortsBy_33 ⟨_, rfl, rfl⟩ (rz ⟨by first | (rw [h1]; rfl) | (rw [e3 w (by omega) (by omega) (by omega)]; rfl), rfl⟩)
  · refine ev_tableIn (off := 33) (tgt := 34) dX9_sortsBy_1 (by omega) (by omega) (by omega) (by rw [h1]; rfl) (by decide) ?_
    refine ev_bipush dX9_sortsBy_34 ?_
    exact ev_ireturn dX9_sortsBy_36 ⟨_, rfl, rfl⟩ (rz ⟨by first | (rw [h1]; rfl) | (rw [e3 w (by omega) (by omega) (by omega)]; rfl), rfl⟩)
  · refine ev_tableOut (tgt := 37) dX9_sortsBy_1 (by omega) (by omega) (by decide) ?_
    refine ev_bipush dX9_sortsBy_37 ?_
    exact ev_ireturn dX9_sortsBy_39 ⟨_, rfl, rfl⟩ (rz ⟨by first | (rw [h1]; rfl) | (rw [e3 w (by omega) (by omega) (by omega)]; rfl), rfl⟩)
def srtM (w q : Int) : Int := if q = 1 then s_could.getD w.toNat 0 else 31 - s_could.getD w.toNat 0
theorem srt_e {w q : Int} (h0 : 0 ≤ w) (h1 : w ≤ 3) (hq : q = 0 ∨ q = 1) : srtM w q = srtV w q := by
  have : w = 0 ∨ w = 1 ∨ w = 2 ∨ w = 3 := by omega
  rcases this with rfl | rfl | rfl | rfl <;> rcases hq with rfl | rfl <;> decide
theorem srt_r {w q : Int} (h0 : 0 ≤ w) (h1 : w ≤ 3) (hq : q = 0 ∨ q = 1) : 0 ≤ srtM w q ∧ srtM w q < 32 := by
  have : w = 0 ∨ w = 1 ∨ w = 2 ∨ w = 3 := by omega
  rcases this with rfl | rfl | rfl | rfl <;> rcases hq with rfl | rfl <;> decide
/-- what the sights leave of a step's sorts -/
def mso (M : Mm) (st : Int) (n : Nat) : Int := soS (fun j => M 65 (3 * j)) (fun j => srtM (M 65 (3 * j + 1)) (M 65 (3 * j + 2))) st n
abbrev mSn (M : Mm) : Prop := ∀ j, 0 ≤ j → j < 6 → (-1000 ≤ M 65 (3 * j) ∧ M 65 (3 * j) ≤ 1000) ∧ (0 ≤ M 65 (3 * j + 1) ∧ M 65 (3 * j + 1) ≤ 3) ∧ (M 65 (3 * j + 2) = 0 ∨ M 65 (3 * j + 2) = 1)
theorem mso_rng {M : Mm} {st : Int} {n : Nat} (hb : mSn M) (hn : n ≤ 6) : 0 ≤ mso M st n ∧ mso M st n < 32 := soS_rng n (fun j h1 h2 => by have := hb j h1 (by omega); exact srt_r this.2.1.1 this.2.1.2 this.2.2)
theorem k_sortsOf {st : Int} (hst : inR st) (M : Mm) {n : Nat} (hn : M 54 20 = n) (h6 : n ≤ 6) (hb : mSn M) : Cm mX9_sortsOf [vR 54, vI st] M (fun r M' => r = some (vI (mso M st n)) ∧ M' = M) := by
  refine cm_of (by decide +kernel) (fun _ => trivial) (Nat.le_of_ble_eq_true rfl) ?_
  refine ev_bipush dX9_sortsOf_0 ?_
  refine ev_istore_n dX9_sortsOf_2 (by decide) ?_
  refine ev_iconst dX9_sortsOf_3 ?_
  refine ev_istore_n dX9_sortsOf_4 (by decide) ?_
  refine ev_to (L' := [some (vR 54), some (vI st), some (vI (mso M st (0 : Nat))), some (vI (3 * ((0 : Nat) : Int))), none]) (S' := []) (M' := M) (k' := 0) (n' := 0) ?_ (by repeat (first | exact trivial | refine ⟨rfl, ?_⟩)) rfl rfl rfl rfl
  refine up_loop (P := fun i => Ev mX9_sortsOf 5 [some (vR 54), some (vI st), some (vI (mso M st i)), some (vI (3 * (i : Int))), none] [] KK (M) PP 0 0 _) n ?_ ?_
  · refine ev_iload_n dX9_sortsOf_5 rfl ?_
    refine ev_iconst dX9_sortsOf_6 ?_
    first | refine ev_aload_n dX9_sortsOf_7 rfl ?_ | refine ev_aloadX_n dX9_sortsOf_7 rfl ?_
    refine ev_gI 20 dX9_sortsOf_8 fX9_133 rfl (by first | rfl | assumption) rfl ?_
    rw [hn]
    refine ev_imul dX9_sortsOf_11 ?_
    refine ev_icmp_ge (tgt := 69) dX9_sortsOf_12 (by decide) (by omega) (by omega) (fun hb12 => ?_) (fun hb12 => ?_)
    · refine ev_iload_n dX9_sortsOf_69 rfl ?_
      exact ev_ireturn dX9_sortsOf_70 ⟨_, rfl, rfl⟩ (rz ⟨rfl, rfl⟩)
    · omega
  · intro i hi hP
    obtain ⟨b1, b2, b3⟩ := hb (i : Int) (by omega) (by omega)
    have e3 : (3 : Int) * ((i + 1 : Nat) : Int) = 3 * (i : Int) + 3 := by omega
    have e4 : mso M st (i + 1) = if M 65 (3 * (i : Int)) = st then andI (mso M st i) (srtM (M 65 (3 * (i : Int) + 1)) (M 65 (3 * (i : Int) + 2))) else mso M st i := rfl
    rw [e3, e4] at hP
    have e5 : srtM (M 65 (3 * (i : Int) + 1)) (M 65 (3 * (i : Int) + 2)) = if M 65 (3 * (i : Int) + 2) = 1 then s_could.getD (M 65 (3 * (i : Int) + 1)).toNat 0 else 31 - s_could.getD (M 65 (3 * (i : Int) + 1)).toNat 0 := rfl
    rw [e5] at hP
    refine ev_iload_n dX9_sortsOf_5 rfl ?_
    refine ev_iconst dX9_sortsOf_6 ?_
    first | refine ev_aload_n dX9_sortsOf_7 rfl ?_ | refine ev_aloadX_n dX9_sortsOf_7 rfl ?_
    refine ev_gI 20 dX9_sortsOf_8 fX9_133 rfl (by first | rfl | assumption) rfl ?_
    rw [hn]
    refine ev_imul dX9_sortsOf_11 ?_
    refine ev_icmp_ge (tgt := 69) dX9_sortsOf_12 (by decide) (by omega) (by omega) (fun hb12 => ?_) (fun hb12 => ?_)
    · omega
    · first | refine ev_aload_n dX9_sortsOf_15 rfl ?_ | refine ev_aloadX_n dX9_sortsOf_15 rfl ?_
      refine ev_getR dX9_sortsOf_16 fX9_41 rfl (by first | rfl | assumption) (by first | rfl | assumption) ?_
      refine ev_iload_n dX9_sortsOf_19 rfl ?_
      refine ev_iaload dX9_sortsOf_20 (by first | rfl | assumption) (by omega) (by omega) (by decide) ?_
      refine ev_iload_n dX9_sortsOf_21 rfl ?_
      refine ev_icmp_ne (tgt := 63) dX9_sortsOf_22 (by decide) (by omega) (by omega) (fun hb22 => ?_) (fun hb22 => ?_)
      · refine ev_iinc dX9_sortsOf_63 rfl (by decide) ?_
        refine ev_goto (tgt := 5) dX9_sortsOf_66 (by decide) ?_
        first | rw [if_neg (by omega)] at hP | rw [if_pos (by omega), if_pos (by omega)] at hP | rw [if_pos (by omega), if_neg (by omega)] at hP
        exact ev_to hP (by repeat (first | exact trivial | refine ⟨rfl, ?_⟩)) rfl rfl rfl rfl
      · first | refine ev_aload_n dX9_sortsOf_25 rfl ?_ | refine ev_aloadX_n dX9_sortsOf_25 rfl ?_
        refine ev_getR dX9_sortsOf_26 fX9_41 rfl (by first | rfl | assumption) (by first | rfl | assumption) ?_
        refine ev_iload_n dX9_sortsOf_29 rfl ?_
        refine ev_iconst dX9_sortsOf_30 ?_
        refine ev_iadd dX9_sortsOf_31 ?_
        refine ev_iaload dX9_sortsOf_32 (by first | rfl | assumption) (by omega) (by omega) (by decide) ?_
        refine ev_calls (k_sortsBy b2.1 b2.2 M) dX9_sortsOf_33 tX9_sortsBy.1 kX9_296 tX9_sortsBy.2.1 tX9_sortsBy.2.2 ⟨⟨Nat.le_of_ble_eq_true rfl, Nat.le_of_ble_eq_true rfl⟩, Nat.le_of_ble_eq_true rfl, Nat.le_of_ble_eq_true rfl⟩ rfl (Nat.le_of_ble_eq_true rfl) ?_
        rintro r K' M' P' ⟨rfl, rfl, rfl, hM'⟩
        rw [hM']
        clear hM' M'
        refine ev_istore dX9_sortsOf_36 (by decide) ?_
        refine ev_iload_n dX9_sortsOf_38 rfl ?_
        first | refine ev_aload_n dX9_sortsOf_39 rfl ?_ | refine ev_aloadX_n dX9_sortsOf_39 rfl ?_
        refine ev_getR dX9_sortsOf_40 fX9_41 rfl (by first | rfl | assumption) (by first | rfl | assumption) ?_
        refine ev_iload_n dX9_sortsOf_43 rfl ?_
        refine ev_iconst dX9_sortsOf_44 ?_
        refine ev_iadd dX9_sortsOf_45 ?_
        refine ev_iaload dX9_sortsOf_46 (by first | rfl | assumption) (by omega) (by omega) (by decide) ?_
        refine ev_iconst dX9_sortsOf_47 ?_
        refine ev_icmp_ne (tgt := 56) dX9_sortsOf_48 (by decide) (by omega) (by omega) (fun hb48 => ?_) (fun hb48 => ?_)
        · refine ev_bipush dX9_sortsOf_56 ?_
          refine ev_iload dX9_sortsOf_58 rfl ?_
          refine ev_isub dX9_sortsOf_60 ?_
          refine ev_iand dX9_sortsOf_61 ?_
          refine ev_istore_n dX9_sortsOf_62 (by decide) ?_
          refine ev_iinc dX9_sortsOf_63 rfl (by decide) ?_
          refine ev_goto (tgt := 5) dX9_sortsOf_66 (by decide) ?_
          first | rw [if_neg (by omega)] at hP | rw [if_pos (by omega), if_pos (by omega)] at hP | rw [if_pos (by omega), if_neg (by omega)] at hP
          exact ev_to hP (by repeat (first | exact trivial | refine ⟨rfl, ?_⟩)) rfl rfl rfl rfl
        · refine ev_iload dX9_sortsOf_51 rfl ?_
          refine ev_goto (tgt := 61) dX9_sortsOf_53 (by decide) ?_
          refine ev_iand dX9_sortsOf_61 ?_
          refine ev_istore_n dX9_sortsOf_62 (by decide) ?_
          refine ev_iinc dX9_sortsOf_63 rfl (by decide) ?_
          refine ev_goto (tgt := 5) dX9_sortsOf_66 (by decide) ?_
          first | rw [if_neg (by omega)] at hP | rw [if_pos (by omega), if_pos (by omega)] at hP | rw [if_pos (by omega), if_neg (by omega)] at hP
          exact ev_to hP (by repeat (first | exact trivial | refine ⟨rfl, ?_⟩)) rfl rfl rfl rfl
def onS (s : Int) : Nat → Int
  | 0 => 0
  | i + 1 => onS s i + andI (shrI s (i : Int)) 1
theorem on_ok : ∀ s : Fin 32, onS ((s.val : Nat) : Int) 5 = popc.getD s.val 0 := by decide
theorem on_ok' {s : Int} (h : 0 ≤ s) (h2 : s < 32) : onS s 5 = popc.getD s.toNat 0 := by
  have := on_ok ⟨s.toNat, by omega⟩
  simp only [Int.toNat_of_nonneg h] at this
  exact this
theorem k_ones {s : Int} (h : 0 ≤ s) (h2 : s < 32) (M : Mm) : Cm mX9_ones [vI s] M (fun r M' => r = some (vI (popc.getD s.toNat 0)) ∧ M' = M) := by
  rw [← on_ok' h h2]
  refine cm_of (by decide +kernel) (fun _ => trivial) (Nat.le_of_ble_eq_true rfl) ?_
  refine ev_iconst dX9_ones_0 ?_
  refine ev_istore_n dX9_ones_1 (by decide) ?_
  refine ev_iconst dX9_ones_2 ?_
  refine ev_istore_n dX9_ones_3 (by decide) ?_
  refine ev_to (L' := [some (vI s), some (vI (onS s (0 : Nat))), some (vI ((0 : Nat) : Int))]) (S' := []) (M' := M) (k' := 0) (n' := 0) ?_ (by repeat (first | exact trivial | refine ⟨rfl, ?_⟩)) rfl rfl rfl rfl
  refine up_loop (P := fun i => Ev mX9_ones 4 [some (vI s), some (vI (onS s i)), some (vI (i : Int))] [] KK (M) PP 0 0 _) 5 ?_ ?_
  · refine ev_iload_n dX9_ones_4 rfl ?_
    refine ev_iconst dX9_ones_5 ?_
    refine ev_icmp_ge (tgt := 23) dX9_ones_6 (by decide) (by omega) (by omega) (fun hb6 => ?_) (fun hb6 => ?_)
    · refine ev_iload_n dX9_ones_23 rfl ?_
      exact ev_ireturn dX9_ones_24 ⟨_, rfl, rfl⟩ (rz ⟨rfl, rfl⟩)
    · omega
  · intro i hi hP
    refine ev_iload_n dX9_ones_4 rfl ?_
    refine ev_iconst dX9_ones_5 ?_
    refine ev_icmp_ge (tgt := 23) dX9_ones_6 (by decide) (by omega) (by omega) (fun hb6 => ?_) (fun hb6 => ?_)
    · omega
    · refine ev_iload_n dX9_ones_9 rfl ?_
      refine ev_iload_n dX9_ones_10 rfl ?_
      refine ev_iload_n dX9_ones_11 rfl ?_
      refine ev_ishr dX9_ones_12 ?_
      refine ev_iconst dX9_ones_13 ?_
      refine ev_iand dX9_ones_14 ?_
      refine ev_iadd dX9_ones_15 ?_
      refine ev_istore_n dX9_ones_16 (by decide) ?_
      refine ev_iinc dX9_ones_17 rfl (by decide) ?_
      refine ev_goto (tgt := 4) dX9_ones_20 (by decide) ?_
      exact ev_to hP (by repeat (first | exact trivial | refine ⟨rfl, ?_⟩)) rfl rfl rfl rfl
theorem pc_sub : ∀ s : Fin 32, ∀ i : Fin 4, popc.getD (andI ((s.val : Nat) : Int) (xorI (s_could.getD i.val 0) (-1))).toNat 0 = popc.getD s.val 0 - popc.getD (andI ((s.val : Nat) : Int) (s_could.getD i.val 0)).toNat 0 := by decide
theorem qfA_m {s : Int} (h : 0 ≤ s) (h2 : s < 32) {i : Nat} (hi : i < 4) : qfA s i = max (popc.getD (andI s (s_could.getD i 0)).toNat 0) (popc.getD s.toNat 0 - popc.getD (andI s (s_could.getD i 0)).toNat 0) := by
  have := pc_sub ⟨s.toNat, by omega⟩ ⟨i, hi⟩
  simp only [Int.toNat_of_nonneg h] at this
  unfold qfA
  rw [this]
theorem k_askOf {st : Int} (hst : inR st) (M : Mm) {n : Nat} (hn : M 54 20 = n) (h6 : n ≤ 6) (hb : mSn M) : Cm mX9_askOf [vR 54, vI st] M (fun r M' => r = some (vI (qfV (mso M st n))) ∧ M' = M) := by
  have hr := mso_rng (st := st) hb h6
  refine cm_of (by decide +kernel) (fun _ => trivial) (Nat.le_of_ble_eq_true rfl) ?_
  first | refine ev_aload_n dX9_askOf_0 rfl ?_ | refine ev_aloadX_n dX9_askOf_0 rfl ?_
  refine ev_iload_n dX9_askOf_1 rfl ?_
  refine ev_callv (ci := 9) (k_sortsOf hst M hn h6 hb) dX9_askOf_2 tX9_sortsOf.1 kX9_266 tX9_sortsOf.2.1 tX9_sortsOf.2.2.1 rfl (by first | rfl | assumption) tX9_sortsOf.2.2.2 ⟨⟨Nat.le_of_ble_eq_true rfl, Nat.le_of_ble_eq_true rfl⟩, Nat.le_of_ble_eq_true rfl, Nat.le_of_ble_eq_true rfl⟩ rfl (Nat.le_of_ble_eq_true rfl) ?_
  rintro r K' M' P' ⟨rfl, rfl, rfl, hM'⟩
  rw [hM']
  clear hM' M'
  generalize mso M st n = s at hr ⊢
  obtain ⟨h, h2⟩ := hr
  refine ev_istore_n dX9_askOf_5 (by decide) ?_
  refine ev_iconst dX9_askOf_6 ?_
  refine ev_istore_n dX9_askOf_7 (by decide) ?_
  refine ev_bipush dX9_askOf_8 ?_
  refine ev_istore dX9_askOf_10 (by decide) ?_
  refine ev_iconst dX9_askOf_12 ?_
  refine ev_istore dX9_askOf_13 (by decide) ?_
  by_cases hs0 : s = 0
  · refine ev_iload dX9_askOf_15 rfl ?_
    refine ev_iconst dX9_askOf_17 ?_
    refine ev_icmp_ge (tgt := 98) dX9_askOf_18 (by decide) (by omega) (by omega) (fun hb18 => ?_) (fun hb18 => ?_)
    · refine ev_iload_n dX9_askOf_98 rfl ?_
      exact ev_ireturn dX9_askOf_99 ⟨_, rfl, rfl⟩ (rz ⟨by unfold qfV; rw [if_pos hs0], rfl⟩)
    · refine ev_iload_n dX9_askOf_21 rfl ?_
      refine ev_if_eq (tgt := 98) dX9_askOf_22 (by decide) (by omega) (fun hb22 => ?_) (fun hb22 => ?_)
      · refine ev_iload_n dX9_askOf_98 rfl ?_
        exact ev_ireturn dX9_askOf_99 ⟨_, rfl, rfl⟩ (rz ⟨by unfold qfV; rw [if_pos hs0], rfl⟩)
      · omega
  have eV : qfV s = (qfS s 4).1 := by unfold qfV; rw [if_neg hs0]
  rw [eV]
  refine ev_to (L' := [some (vR 54), some (vI st), some (vI s), some (vI (qfS s (0 : Nat)).1), some (vI (qfS s (0 : Nat)).2), some (vI ((0 : Nat) : Int)), none, none, none]) (S' := []) (M' := M) (k' := 0) (n' := 0) ?_ (by repeat (first | exact trivial | refine ⟨rfl, ?_⟩)) rfl rfl rfl rfl
  refine up_loop (P := fun i => Ev mX9_askOf 15 [some (vR 54), some (vI st), some (vI s), some (vI (qfS s i).1), some (vI (qfS s i).2), some (vI (i : Int)), none, none, none] [] KK (M) PP 0 0 _) 4 ?_ ?_
  · refine ev_iload dX9_askOf_15 rfl ?_
    refine ev_iconst dX9_askOf_17 ?_
    refine ev_icmp_ge (tgt := 98) dX9_askOf_18 (by decide) (by omega) (by omega) (fun hb18 => ?_) (fun hb18 => ?_)
    · refine ev_iload_n dX9_askOf_98 rfl ?_
      exact ev_ireturn dX9_askOf_99 ⟨_, rfl, rfl⟩ (rz ⟨rfl, rfl⟩)
    · omega
  · intro i hi hP
    obtain ⟨r1, r2⟩ := qf_r h h2 hi
    have p1 := popc_r r1.1 r1.2
    have p3 := popc_r h h2
    have q1 := qfS_rng h h2 i (by omega)
    have eA := qfA_m h h2 hi
    have eS : qfS s (i + 1) = if qfA s i < (qfS s i).2 then ((i : Int), qfA s i) else qfS s i := rfl
    rw [eS, eA] at hP
    have ei : ((i : Int)).toNat = i := by omega
    have o1 := k_ones r1.1 r1.2 M
    have o2 := k_ones h h2 M
    clear eA eS
    generalize popc.getD (andI s (s_could.getD i 0)).toNat 0 = y at *
    generalize popc.getD s.toNat 0 = t at *
    have hQ : ∀ b' l' : Int, ((max y (t - y) < (qfS s i).2 ∧ b' = i ∧ l' = max y (t - y)) ∨ (¬ max y (t - y) < (qfS s i).2 ∧ b' = (qfS s i).1 ∧ l' = (qfS s i).2)) → Ev mX9_askOf 15 [some (vR 54), some (vI st), some (vI s), some (vI b'), some (vI l'), some (vI ((i + 1 : Nat) : Int)), none, none, none] [] KK M PP 0 0 (Rz mX9_askOf (fun r M' => r = some (vI (qfS s 4).1) ∧ M' = M)) := by
      rintro b' l' (⟨z, rfl, rfl⟩ | ⟨z, rfl, rfl⟩)
      · rw [if_pos z] at hP; exact hP
      · rw [if_neg z] at hP; exact hP
    clear hP
    generalize (qfS s i).1 = qb at *
    generalize (qfS s i).2 = ql at *
    have s3 : ∀ w b' : Int, w = max y (t - y) → b' = (if w < ql then (i : Int) else qb) → Ev mX9_askOf 76 [some (vR 54), some (vI st), some (vI s), some (vI b'), some (vI ql), some (vI (i : Int)), none, none, some (vI w)] [] KK M PP 0 0 (Rz mX9_askOf (fun r M' => r = some (vI (qfS s 4).1) ∧ M' = M)) := by
      intro w b' hw' hb'
      refine ev_iload dX9_askOf_76 rfl ?_
      refine ev_iload dX9_askOf_78 rfl ?_
      refine ev_icmp_ge (tgt := 88) dX9_askOf_80 (by decide) (by omega) (by omega) (fun hb80 => ?_) (fun hb80 => ?_)
      · refine ev_iload dX9_askOf_88 rfl ?_
        refine ev_istore dX9_askOf_90 (by decide) ?_
        refine ev_iinc dX9_askOf_92 rfl (by decide) ?_
        refine ev_goto (tgt := 15) dX9_askOf_95 (by decide) ?_
        refine ev_to (hQ _ _ ?_) (by repeat (first | exact trivial | refine ⟨rfl, ?_⟩)) rfl rfl rfl rfl
        subst hb'
        subst hw'
        split <;> omega
      · refine ev_iload dX9_askOf_83 rfl ?_
        refine ev_goto (tgt := 90) dX9_askOf_85 (by decide) ?_
        refine ev_istore dX9_askOf_90 (by decide) ?_
        refine ev_iinc dX9_askOf_92 rfl (by decide) ?_
        refine ev_goto (tgt := 15) dX9_askOf_95 (by decide) ?_
        refine ev_to (hQ _ _ ?_) (by repeat (first | exact trivial | refine ⟨rfl, ?_⟩)) rfl rfl rfl rfl
        subst hb'
        subst hw'
        split <;> omega
    have s2 : ∀ w : Int, w = max y (t - y) → Ev mX9_askOf 62 [some (vR 54), some (vI st), some (vI s), some (vI qb), some (vI ql), some (vI (i : Int)), none, none, some (vI w)] [] KK M PP 0 0 (Rz mX9_askOf (fun r M' => r = some (vI (qfS s 4).1) ∧ M' = M)) := by
      intro w hw'
      refine ev_iload dX9_askOf_62 rfl ?_
      refine ev_iload dX9_askOf_64 rfl ?_
      refine ev_icmp_ge (tgt := 74) dX9_askOf_66 (by decide) (by omega) (by omega) (fun hb66 => ?_) (fun hb66 => ?_)
      · refine ev_iload_n dX9_askOf_74 rfl ?_
        refine ev_istore_n dX9_askOf_75 (by decide) ?_
        refine ev_to (s3 w _ hw' ?_) (by repeat (first | exact trivial | refine ⟨rfl, ?_⟩)) rfl rfl rfl rfl
        first | rw [if_pos (by omega)] | rw [if_neg (by omega)]
      · refine ev_iload dX9_askOf_69 rfl ?_
        refine ev_goto (tgt := 75) dX9_askOf_71 (by decide) ?_
        refine ev_istore_n dX9_askOf_75 (by decide) ?_
        refine ev_to (s3 w _ hw' ?_) (by repeat (first | exact trivial | refine ⟨rfl, ?_⟩)) rfl rfl rfl rfl
        first | rw [if_pos (by omega)] | rw [if_neg (by omega)]
    refine ev_iload dX9_askOf_15 rfl ?_
    refine ev_iconst dX9_askOf_17 ?_
    refine ev_icmp_ge (tgt := 98) dX9_askOf_18 (by decide) (by omega) (by omega) (fun hb18 => ?_) (fun hb18 => ?_)
    · omega
    · refine ev_iload_n dX9_askOf_21 rfl ?_
      refine ev_if_eq (tgt := 98) dX9_askOf_22 (by decide) (by omega) (fun hb22 => ?_) (fun hb22 => ?_)
      · omega
      · refine ev_iload_n dX9_askOf_25 rfl ?_
        refine ev_iload dX9_askOf_26 rfl ?_
        refine ev_calls (k_sortsBy (w := (i : Int)) (by omega) (by omega) M) dX9_askOf_28 tX9_sortsBy.1 kX9_296 tX9_sortsBy.2.1 tX9_sortsBy.2.2 ⟨⟨Nat.le_of_ble_eq_true rfl, Nat.le_of_ble_eq_true rfl⟩, Nat.le_of_ble_eq_true rfl, Nat.le_of_ble_eq_true rfl⟩ rfl (Nat.le_of_ble_eq_true rfl) ?_
        rintro r K' M' P' ⟨rfl, rfl, rfl, hM'⟩
        rw [hM']
        clear hM' M'
        rw [ei]
        refine ev_iand dX9_askOf_31 ?_
        refine ev_calls o1 dX9_askOf_32 tX9_ones.1 kX9_299 tX9_ones.2.1 tX9_ones.2.2 ⟨⟨Nat.le_of_ble_eq_true rfl, Nat.le_of_ble_eq_true rfl⟩, Nat.le_of_ble_eq_true rfl, Nat.le_of_ble_eq_true rfl⟩ rfl (Nat.le_of_ble_eq_true rfl) ?_
        rintro r K' M' P' ⟨rfl, rfl, rfl, hM'⟩
        rw [hM']
        clear hM' M'
        refine ev_istore dX9_askOf_35 (by decide) ?_
        refine ev_iload_n dX9_askOf_37 rfl ?_
        refine ev_calls o2 dX9_askOf_38 tX9_ones.1 kX9_299 tX9_ones.2.1 tX9_ones.2.2 ⟨⟨Nat.le_of_ble_eq_true rfl, Nat.le_of_ble_eq_true rfl⟩, Nat.le_of_ble_eq_true rfl, Nat.le_of_ble_eq_true rfl⟩ rfl (Nat.le_of_ble_eq_true rfl) ?_
        rintro r K' M' P' ⟨rfl, rfl, rfl, hM'⟩
        rw [hM']
        clear hM' M'
        refine ev_iload dX9_askOf_41 rfl ?_
        refine ev_isub dX9_askOf_43 ?_
        refine ev_istore dX9_askOf_44 (by decide) ?_
        refine ev_iload dX9_askOf_46 rfl ?_
        refine ev_iload dX9_askOf_48 rfl ?_
        refine ev_icmp_le (tgt := 58) dX9_askOf_50 (by decide) (by omega) (by omega) (fun hb50 => ?_) (fun hb50 => ?_)
        · refine ev_iload dX9_askOf_58 rfl ?_
          refine ev_istore dX9_askOf_60 (by decide) ?_
          refine ev_to (s2 _ ?_) (by repeat (first | exact trivial | refine ⟨rfl, ?_⟩)) rfl rfl rfl rfl
          omega
        · refine ev_iload dX9_askOf_53 rfl ?_
          refine ev_goto (tgt := 60) dX9_askOf_55 (by decide) ?_
          refine ev_istore dX9_askOf_60 (by decide) ?_
          refine ev_to (s2 _ ?_) (by repeat (first | exact trivial | refine ⟨rfl, ?_⟩)) rfl rfl rfl rfl
          omega
noncomputable def mstp (M : Mm) (A : Nat → PS) (k : Nat) (w : Int) : Int := if w = 0 ∨ w = 1 ∨ w = 2 ∨ w = 3 then M 57 (4 * (k : Int) + w) else if w = 4 then deadV A k else if w = 5 then b01 ((∃ p, A k p) ∧ ∀ p, ¬ A (k + 1) p) else if w = 6 then idleV (mK (M 57)) A k else if w = 7 then mso M k (M 54 20).toNat else if w = 8 then qfV (mso M k (M 54 20).toNat) else -102
theorem mstp_q {M M' : Mm} {n : Nat} (h : FrF M M') (A : Nat → PS) (k : Nat) (w : Int) : mstp M' A k w = mstp M A k w := by
  unfold mstp mso
  rw [h.p, h.1 20 (by decide) (by decide), h.2 65 (by decide) (by decide) (by decide) (by decide) (by decide) (by decide)]
theorem k_tellStep {n k : Nat} {w : Int} (hk : k < n) (hw : inR w) (M : Mm) (hK : KI M n) {A : Nat → PS} {r : Int} (hA : mPr M n A r) : Cm mX9_tellStep [vR 54, vI (k : Int), vI w] M (fun v M' => v = some (vI (mstp M A k w)) ∧ Kq M M' n ∧ mFA M' n A r) := by
  have h6 := hK.n6
  refine cm_of (by decide +kernel) (fun _ => trivial) (Nat.le_of_ble_eq_true rfl) ?_
  first | refine ev_aload_n dX9_tellStep_0 rfl ?_ | refine ev_aloadX_n dX9_tellStep_0 rfl ?_
  refine ev_callv (ci := 9) (k_fresh (n := n) (by omega) M hK hA) dX9_tellStep_1 tX9_freshen.1 kX9_226 tX9_freshen.2.1 tX9_freshen.2.2.1 rfl (by first | rfl | assumption) tX9_freshen.2.2.2 ⟨⟨Nat.le_of_ble_eq_true rfl, Nat.le_of_ble_eq_true rfl⟩, Nat.le_of_ble_eq_true rfl, Nat.le_of_ble_eq_true rfl⟩ rfl (Nat.le_of_ble_eq_true rfl) ?_
  rintro v K' M1 P' ⟨rfl, rfl, rfl, q1, q2⟩
  rw [← mstp_q (n := n) q1.1 A k w]
  have hF := q2
  obtain ⟨-, -, hO, hR⟩ := q2
  obtain ⟨a1, a2⟩ := hR k (by omega)
  obtain ⟨a3, a4⟩ := hR (k + 1) (by omega)
  have a4' : M1 63 ((k : Int) + 1) = crd (A (k + 1)) := a4
  have hc := crd_rng (A k)
  have hc' := crd_rng (A (k + 1))
  have hz := crd_em (hO k (by omega))
  have hz' := crd_em (hO (k + 1) (by omega))
  have s0 := q1.2.sn0
  have s1 := q1.2.sn1
  have hsn : M1 54 20 = ((M1 54 20).toNat : Int) := (Int.toNat_of_nonneg s0).symm
  have n0 : ¬ ((∃ p, A k p) ∧ ∀ p, ¬ A (k + 1) p) → 0 = b01 ((∃ p, A k p) ∧ ∀ p, ¬ A (k + 1) p) := fun h => (b01_0 h).symm
  have n1 : ((∃ p, A k p) ∧ ∀ p, ¬ A (k + 1) p) → 1 = b01 ((∃ p, A k p) ∧ ∀ p, ¬ A (k + 1) p) := fun h => (b01_1 h).symm
  refine ev_iload_n dX9_tellStep_4 rfl ?_
  rcases (by omega : w = 0 ∨ w = 1 ∨ w = 2 ∨ w = 3 ∨ w = 4 ∨ w = 5 ∨ w = 6 ∨ w = 7 ∨ w = 8 ∨ (w < 0 ∨ 8 < w)) with h5 | h5 | h5 | h5 | h5 | h5 | h5 | h5 | h5 | h5
  · refine ev_tableIn (off := 51) (tgt := 56) dX9_tellStep_5 (by omega) (by omega) (by omega) (by rw [h5]; rfl) (by decide) ?_
    first | refine ev_aload_n dX9_tellStep_56 rfl ?_ | refine ev_aloadX_n dX9_tellStep_56 rfl ?_
    refine ev_getR dX9_tellStep_57 fX9_16 rfl (by first | rfl | assumption) (by first | rfl | assumption) ?_
    refine ev_iconst dX9_tellStep_60 ?_
    refine ev_iload_n dX9_tellStep_61 rfl ?_
    refine ev_imul dX9_tellStep_62 ?_
    refine ev_iload_n dX9_tellStep_63 rfl ?_
    refine ev_iadd dX9_tellStep_64 ?_
    refine ev_iaload dX9_tellStep_65 (by first | rfl | assumption) (by omega) (by omega) (by decide) ?_
    exact ev_ireturn dX9_tellStep_66 ⟨_, rfl, rfl⟩ (rz ⟨by unfold mstp; rw [if_pos (by omega)], q1, hF⟩)
  · refine ev_tableIn (off := 51) (tgt := 56) dX9_tellStep_5 (by omega) (by omega) (by omega) (by rw [h5]; rfl) (by decide) ?_
    first | refine ev_aload_n dX9_tellStep_56 rfl ?_ | refine ev_aloadX_n dX9_tellStep_56 rfl ?_
    refine ev_getR dX9_tellStep_57 fX9_16 rfl (by first | rfl | assumption) (by first | rfl | assumption) ?_
    refine ev_iconst dX9_tellStep_60 ?_
    refine ev_iload_n dX9_tellStep_61 rfl ?_
    refine ev_imul dX9_tellStep_62 ?_
    refine ev_iload_n dX9_tellStep_63 rfl ?_
    refine ev_iadd dX9_tellStep_64 ?_
    refine ev_iaload dX9_tellStep_65 (by first | rfl | assumption) (by omega) (by omega) (by decide) ?_
    exact ev_ireturn dX9_tellStep_66 ⟨_, rfl, rfl⟩ (rz ⟨by unfold mstp; rw [if_pos (by omega)], q1, hF⟩)
  · refine ev_tableIn (off := 51) (tgt := 56) dX9_tellStep_5 (by omega) (by omega) (by omega) (by rw [h5]; rfl) (by decide) ?_
    first | refine ev_aload_n dX9_tellStep_56 rfl ?_ | refine ev_aloadX_n dX9_tellStep_56 rfl ?_
    refine ev_getR dX9_tellStep_57 fX9_16 rfl (by first | rfl | assumption) (by first | rfl | assumption) ?_
    refine ev_iconst dX9_tellStep_60 ?_
    refine ev_iload_n dX9_tellStep_61 rfl ?_
    refine ev_imul dX9_tellStep_62 ?_
    refine ev_iload_n dX9_tellStep_63 rfl ?_
    refine ev_iadd dX9_tellStep_64 ?_
    refine ev_iaload dX9_tellStep_65 (by first | rfl | assumption) (by omega) (by omega) (by decide) ?_
    exact ev_ireturn dX9_tellStep_66 ⟨_, rfl, rfl⟩ (rz ⟨by unfold mstp; rw [if_pos (by omega)], q1, hF⟩)
  · refine ev_tableIn (off := 51) (tgt := 56) dX9_tellStep_5 (by omega) (by omega) (by omega) (by rw [h5]; rfl) (by decide) ?_
    first | refine ev_aload_n dX9_tellStep_56 rfl ?_ | refine ev_aloadX_n dX9_tellStep_56 rfl ?_
    refine ev_getR dX9_tellStep_57 fX9_16 rfl (by first | rfl | assumption) (by first | rfl | assumption) ?_
    refine ev_iconst dX9_tellStep_60 ?_
    refine ev_iload_n dX9_tellStep_61 rfl ?_
    refine ev_imul dX9_tellStep_62 ?_
    refine ev_iload_n dX9_tellStep_63 rfl ?_
    refine ev_iadd dX9_tellStep_64 ?_
    refine ev_iaload dX9_tellStep_65 (by first | rfl | assumption) (by omega) (by omega) (by decide) ?_
    exact ev_ireturn dX9_tellStep_66 ⟨_, rfl, rfl⟩ (rz ⟨by unfold mstp; rw [if_pos (by omega)], q1, hF⟩)
  · refine ev_tableIn (off := 62) (tgt := 67) dX9_tellStep_5 (by omega) (by omega) (by omega) (by rw [h5]; rfl) (by decide) ?_
    first | refine ev_aload_n dX9_tellStep_67 rfl ?_ | refine ev_aloadX_n dX9_tellStep_67 rfl ?_
    refine ev_iload_n dX9_tellStep_68 rfl ?_
    refine ev_callv (ci := 9) (k_dead (by omega) h6 M1 hF) dX9_tellStep_69 tX9_dead.1 kX9_260 tX9_dead.2.1 tX9_dead.2.2.1 rfl (by first | rfl | assumption) tX9_dead.2.2.2 ⟨⟨Nat.le_of_ble_eq_true rfl, Nat.le_of_ble_eq_true rfl⟩, Nat.le_of_ble_eq_true rfl, Nat.le_of_ble_eq_true rfl⟩ rfl (Nat.le_of_ble_eq_true rfl) ?_
    rintro r K' M' P' ⟨rfl, rfl, rfl, hM'⟩
    rw [hM']
    clear hM' M'
    exact ev_ireturn dX9_tellStep_72 ⟨_, rfl, rfl⟩ (rz ⟨by rw [h5]; rfl, q1, hF⟩)
  · refine ev_tableIn (off := 68) (tgt := 73) dX9_tellStep_5 (by omega) (by omega) (by omega) (by rw [h5]; rfl) (by decide) ?_
    first | refine ev_aload_n dX9_tellStep_73 rfl ?_ | refine ev_aloadX_n dX9_tellStep_73 rfl ?_
    refine ev_getR dX9_tellStep_74 fX9_35 rfl (by first | rfl | assumption) (by first | rfl | assumption) ?_
    refine ev_iload_n dX9_tellStep_77 rfl ?_
    refine ev_iaload dX9_tellStep_78 (by first | rfl | assumption) (by omega) (by omega) (by decide) ?_
    rw [a2]
    refine ev_if_le (tgt := 97) dX9_tellStep_79 (by decide) (by omega) (fun hb79 => ?_) (fun hb79 => ?_)
    · refine ev_iconst dX9_tellStep_97 ?_
      exact ev_ireturn dX9_tellStep_98 ⟨_, rfl, rfl⟩ (rz ⟨by (have em : mstp M1 A k w = b01 ((∃ p, A k p) ∧ ∀ p, ¬ A (k + 1) p) := by rw [h5]; rfl); rw [em]; refine congrArg (fun z => some (vI z)) ?_; first | exact n1 ⟨Classical.byContradiction (fun z => by have := hz.mpr (fun p hp => z ⟨p, hp⟩); omega), hz'.mp (by omega)⟩ | exact n0 (fun z => by have := hz'.mpr z.2; omega) | exact n0 (fun z => by obtain ⟨p, hp⟩ := z.1; exact hz.mp (by omega) p hp), q1, hF⟩)
    · first | refine ev_aload_n dX9_tellStep_82 rfl ?_ | refine ev_aloadX_n dX9_tellStep_82 rfl ?_
      refine ev_getR dX9_tellStep_83 fX9_35 rfl (by first | rfl | assumption) (by first | rfl | assumption) ?_
      refine ev_iload_n dX9_tellStep_86 rfl ?_
      refine ev_iconst dX9_tellStep_87 ?_
      refine ev_iadd dX9_tellStep_88 ?_
      refine ev_iaload dX9_tellStep_89 (by first | rfl | assumption) (by omega) (by omega) (by decide) ?_
      rw [a4']
      refine ev_if_ne (tgt := 97) dX9_tellStep_90 (by decide) (by omega) (fun hb90 => ?_) (fun hb90 => ?_)
      · refine ev_iconst dX9_tellStep_97 ?_
        exact ev_ireturn dX9_tellStep_98 ⟨_, rfl, rfl⟩ (rz ⟨by (have em : mstp M1 A k w = b01 ((∃ p, A k p) ∧ ∀ p, ¬ A (k + 1) p) := by rw [h5]; rfl); rw [em]; refine congrArg (fun z => some (vI z)) ?_; first | exact n1 ⟨Classical.byContradiction (fun z => by have := hz.mpr (fun p hp => z ⟨p, hp⟩); omega), hz'.mp (by omega)⟩ | exact n0 (fun z => by have := hz'.mpr z.2; omega) | exact n0 (fun z => by obtain ⟨p, hp⟩ := z.1; exact hz.mp (by omega) p hp), q1, hF⟩)
      · refine ev_iconst dX9_tellStep_93 ?_
        refine ev_goto (tgt := 98) dX9_tellStep_94 (by decide) ?_
        exact ev_ireturn dX9_tellStep_98 ⟨_, rfl, rfl⟩ (rz ⟨by (have em : mstp M1 A k w = b01 ((∃ p, A k p) ∧ ∀ p, ¬ A (k + 1) p) := by rw [h5]; rfl); rw [em]; refine congrArg (fun z => some (vI z)) ?_; first | exact n1 ⟨Classical.byContradiction (fun z => by have := hz.mpr (fun p hp => z ⟨p, hp⟩); omega), hz'.mp (by omega)⟩ | exact n0 (fun z => by have := hz'.mpr z.2; omega) | exact n0 (fun z => by obtain ⟨p, hp⟩ := z.1; exact hz.mp (by omega) p hp), q1, hF⟩)
  · refine ev_tableIn (off := 94) (tgt := 99) dX9_tellStep_5 (by omega) (by omega) (by omega) (by rw [h5]; rfl) (by decide) ?_
    first | refine ev_aload_n dX9_tellStep_99 rfl ?_ | refine ev_aloadX_n dX9_tellStep_99 rfl ?_
    refine ev_iload_n dX9_tellStep_100 rfl ?_
    refine ev_callv (ci := 9) (k_idle hk h6 M1 q1.2.bd hF) dX9_tellStep_101 tX9_idle.1 kX9_263 tX9_idle.2.1 tX9_idle.2.2.1 rfl (by first | rfl | assumption) tX9_idle.2.2.2 ⟨⟨Nat.le_of_ble_eq_true rfl, Nat.le_of_ble_eq_true rfl⟩, Nat.le_of_ble_eq_true rfl, Nat.le_of_ble_eq_true rfl⟩ rfl (Nat.le_of_ble_eq_true rfl) ?_
    rintro r K' M' P' ⟨rfl, rfl, rfl, hM'⟩
    rw [hM']
    clear hM' M'
    exact ev_ireturn dX9_tellStep_104 ⟨_, rfl, rfl⟩ (rz ⟨by rw [h5]; rfl, q1, hF⟩)
  · refine ev_tableIn (off := 100) (tgt := 105) dX9_tellStep_5 (by omega) (by omega) (by omega) (by rw [h5]; rfl) (by decide) ?_
    first | refine ev_aload_n dX9_tellStep_105 rfl ?_ | refine ev_aloadX_n dX9_tellStep_105 rfl ?_
    refine ev_iload_n dX9_tellStep_106 rfl ?_
    refine ev_callv (ci := 9) (k_sortsOf (by omega) M1 hsn (by omega) q1.2.snb) dX9_tellStep_107 tX9_sortsOf.1 kX9_266 tX9_sortsOf.2.1 tX9_sortsOf.2.2.1 rfl (by first | rfl | assumption) tX9_sortsOf.2.2.2 ⟨⟨Nat.le_of_ble_eq_true rfl, Nat.le_of_ble_eq_true rfl⟩, Nat.le_of_ble_eq_true rfl, Nat.le_of_ble_eq_true rfl⟩ rfl (Nat.le_of_ble_eq_true rfl) ?_
    rintro r K' M' P' ⟨rfl, rfl, rfl, hM'⟩
    rw [hM']
    clear hM' M'
    exact ev_ireturn dX9_tellStep_110 ⟨_, rfl, rfl⟩ (rz ⟨by rw [h5]; rfl, q1, hF⟩)
  · refine ev_tableIn (off := 106) (tgt := 111) dX9_tellStep_5 (by omega) (by omega) (by omega) (by rw [h5]; rfl) (by decide) ?_
    first | refine ev_aload_n dX9_tellStep_111 rfl ?_ | refine ev_aloadX_n dX9_tellStep_111 rfl ?_
    refine ev_iload_n dX9_tellStep_112 rfl ?_
    refine ev_callv (ci := 9) (k_askOf (by omega) M1 hsn (by omega) q1.2.snb) dX9_tellStep_113 tX9_askOf.1 kX9_269 tX9_askOf.2.1 tX9_askOf.2.2.1 rfl (by first | rfl | assumption) tX9_askOf.2.2.2 ⟨⟨Nat.le_of_ble_eq_true rfl, Nat.le_of_ble_eq_true rfl⟩, Nat.le_of_ble_eq_true rfl, Nat.le_of_ble_eq_true rfl⟩ rfl (Nat.le_of_ble_eq_true rfl) ?_
    rintro r K' M' P' ⟨rfl, rfl, rfl, hM'⟩
    rw [hM']
    clear hM' M'
    exact ev_ireturn dX9_tellStep_116 ⟨_, rfl, rfl⟩ (rz ⟨by rw [h5]; rfl, q1, hF⟩)
  · refine ev_tableOut (tgt := 117) dX9_tellStep_5 (by omega) (by omega) (by decide) ?_
    refine ev_bipush dX9_tellStep_117 ?_
    exact ev_ireturn dX9_tellStep_119 ⟨_, rfl, rfl⟩ (rz ⟨by unfold mstp; rw [if_neg (by omega), if_neg (by omega), if_neg (by omega), if_neg (by omega), if_neg (by omega), if_neg (by omega)], q1, hF⟩)
theorem k_step {n : Nat} {x w : Int} (hx : inR x) (hw : inR w) (M : Mm) (hK : KI M n) {A : Nat → PS} {r : Int} (hA : 0 < n → mPr M n A r) : Cm mX9_step [vR 54, vI x, vI w] M (fun v M' => Kq M M' n ∧ (((x < 0 ∨ n ≤ x) ∧ v = some (vI (-101))) ∨ ∃ k : Nat, x = k ∧ k < n ∧ v = some (vI (mstp M A k w)))) := by
  have hs := hK.sz
  have h6 := hK.n6
  refine cm_of (by decide +kernel) (fun _ => trivial) (Nat.le_of_ble_eq_true rfl) ?_
  first | refine ev_aload_n dX9_step_0 rfl ?_ | refine ev_aloadX_n dX9_step_0 rfl ?_
  refine ev_iload_n dX9_step_1 rfl ?_
  refine ev_callv (ci := 9) (k_isStep hx M (by omega) (by omega)) dX9_step_2 tX9_isStep.1 kX9_272 tX9_isStep.2.1 tX9_isStep.2.2.1 rfl (by first | rfl | assumption) tX9_isStep.2.2.2 ⟨⟨Nat.le_of_ble_eq_true rfl, Nat.le_of_ble_eq_true rfl⟩, Nat.le_of_ble_eq_true rfl, Nat.le_of_ble_eq_true rfl⟩ rfl (Nat.le_of_ble_eq_true rfl) ?_
  rintro r K' M' P' ⟨rfl, rfl, ⟨v2, rfl, hw2, hv2⟩, hM'⟩
  rw [hM']
  clear hM' M'
  refine ev_if_eq (tgt := 17) dX9_step_5 (by decide) (by omega) (fun hb5 => ?_) (fun hb5 => ?_)
  · have g2 := (not_congr hv2).mp (by omega)
    refine ev_bipush dX9_step_17 ?_
    exact ev_ireturn dX9_step_19 ⟨_, rfl, rfl⟩ (rz ⟨by first | exact q1 | exact Kq.rf hK, by first | exact Or.inr ⟨k, rfl, by omega, rfl⟩ | exact Or.inl ⟨by omega, rfl⟩⟩)
  · have g2 := hv2.mp (by omega)
    obtain ⟨k, rfl⟩ := Int.eq_ofNat_of_zero_le g2.1
    first | refine ev_aload_n dX9_step_8 rfl ?_ | refine ev_aloadX_n dX9_step_8 rfl ?_
    refine ev_iload_n dX9_step_9 rfl ?_
    refine ev_iload_n dX9_step_10 rfl ?_
    refine ev_callv (ci := 9) (k_tellStep (n := n) (by omega) hw M hK (hA (by omega))) dX9_step_11 tX9_tellStep.1 kX9_275 tX9_tellStep.2.1 tX9_tellStep.2.2.1 rfl (by first | rfl | assumption) tX9_tellStep.2.2.2 ⟨⟨Nat.le_of_ble_eq_true rfl, Nat.le_of_ble_eq_true rfl⟩, Nat.le_of_ble_eq_true rfl, Nat.le_of_ble_eq_true rfl⟩ rfl (Nat.le_of_ble_eq_true rfl) ?_
    rintro v K' M1 P' ⟨rfl, rfl, rfl, q1, q2⟩
    refine ev_goto (tgt := 19) dX9_step_14 (by decide) ?_
    exact ev_ireturn dX9_step_19 ⟨_, rfl, rfl⟩ (rz ⟨by first | exact q1 | exact Kq.rf hK, by first | exact Or.inr ⟨k, rfl, by omega, rfl⟩ | exact Or.inl ⟨by omega, rfl⟩⟩)
