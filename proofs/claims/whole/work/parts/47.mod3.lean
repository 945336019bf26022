/-! ===== the reference: bounds of rows, rows by bounds ===== -/
theorem mxA_lo (u : Int → Int) (a b : Int) : ∀ i : Nat, -99 ≤ mxA u a b i := by
  intro i
  induction i with
  | zero => show (-99 : Int) ≤ -99; omega
  | succ i ih => simp only [mxA]; split <;> omega
theorem mxA_cg {u v : Int → Int} (a b : Int) : ∀ i : Nat, (∀ p : Nat, p < i → (u p = 1 ↔ v p = 1)) → mxA u a b i = mxA v a b i := by
  intro i
  induction i with
  | zero => intro _; rfl
  | succ i ih =>
    intro h
    have h1 := h i (by omega)
    simp only [mxA]
    rw [ih (fun p hp => h p (by omega))]
    by_cases z : u i = 1
    · rw [if_pos z, if_pos (h1.mp z)]
    · rw [if_neg z, if_neg (fun w => z (h1.mpr w))]
theorem mxA_hi {u : Int → Int} {a b : Int} {i : Nat} (hi : i ≤ 4913) : mxA u a b i ≤ 16 := mxA_le (by omega) i (fun p h1 h2 _ => by have := pv_rng (p := p) (by omega) a; have := pv_rng (p := p) (by omega) b; omega)
theorem Rw.mx {f : Int → Int} {k : Nat} {S : PS} (h : Rw f k S) (a b : Int) : mxA (fun p => f (4913 * (k : Int) + p)) a b 4913 = mxA (ind S) a b 4913 := mxA_cg a b 4913 (fun p hp => by show f (4913 * (k : Int) + (p : Int)) = 1 ↔ _; rw [h p (by omega)])
theorem k_boundIn {k : Nat} {a b : Int} (hk : k ≤ 9) (ha : lit a) (hb : lit b) (M : Mm) (hs : sgA M) {S : PS} (hS : Rw (M 58) k S) : Cm mX9_boundIn [vR 54, vI (k : Int), vI a, vI b] M (fun r M' => r = some (vI (bnF S (a * 6 + b))) ∧ M' = M) := by
  have eb : bnF S (a * 6 + b) = mxA (fun p => M 58 (4913 * (k : Int) + p)) a b 4913 := by
    unfold bnF
    rw [hS.mx]
    congr 1 <;> omega
  rw [eb]
  refine cm_of (by decide +kernel) (fun _ => trivial) (Nat.le_of_ble_eq_true rfl) ?_
  refine ev_bipush dX9_boundIn_0 ?_
  refine ev_istore dX9_boundIn_2 (by decide) ?_
  refine ev_iconst dX9_boundIn_4 ?_
  refine ev_istore dX9_boundIn_5 (by decide) ?_
  refine ev_to (L' := [some (vR 54), some (vI (k : Int)), some (vI a), some (vI b), some (vI (mxA (fun p => M 58 (4913 * (k : Int) + p)) a b (0 : Nat))), some (vI ((0 : Nat) : Int)), none]) (S' := []) (M' := M) (k' := 0) (n' := 0) ?_ (by repeat (first | exact trivial | refine ⟨rfl, ?_⟩)) rfl rfl rfl rfl
  refine up_loop (P := fun i => Ev mX9_boundIn 7 [some (vR 54), some (vI (k : Int)), some (vI a), some (vI b), some (vI (mxA (fun p => M 58 (4913 * (k : Int) + p)) a b i)), some (vI (i : Int)), none] [] KK (M) PP 0 0 _) 4913 ?_ ?_
  · refine ev_iload dX9_boundIn_7 rfl ?_
    refine ev_sipush dX9_boundIn_9 ?_
    refine ev_icmp_ge (tgt := 76) dX9_boundIn_12 (by decide) (by omega) (by omega) (fun hb12 => ?_) (fun hb12 => ?_)
    · refine ev_iload dX9_boundIn_76 rfl ?_
      exact ev_ireturn dX9_boundIn_78 ⟨_, rfl, rfl⟩ (rz ⟨rfl, rfl⟩)
    · omega
  · intro i hi hP
    have hip : inP (i : Int) := by omega
    have h01 := hS.v01 hip
    have l1 := mxA_lo (fun p => M 58 (4913 * (k : Int) + p)) a b i
    have l2 := mxA_hi (u := fun p => M 58 (4913 * (k : Int) + p)) (a := a) (b := b) (i := i) (by omega)
    have pa := pv_rng hip a
    have pb := pv_rng hip b
    refine ev_iload dX9_boundIn_7 rfl ?_
    refine ev_sipush dX9_boundIn_9 ?_
    refine ev_icmp_ge (tgt := 76) dX9_boundIn_12 (by decide) (by omega) (by omega) (fun hb12 => ?_) (fun hb12 => ?_)
    · omega
    · first | refine ev_aload_n dX9_boundIn_15 rfl ?_ | refine ev_aloadX_n dX9_boundIn_15 rfl ?_
      refine ev_getR dX9_boundIn_16 fX9_20 rfl (by first | rfl | assumption) (by first | rfl | assumption) ?_
      refine ev_sipush dX9_boundIn_19 ?_
      refine ev_iload_n dX9_boundIn_22 rfl ?_
      refine ev_imul dX9_boundIn_23 ?_
      refine ev_iload dX9_boundIn_24 rfl ?_
      refine ev_iadd dX9_boundIn_26 ?_
      refine ev_iaload dX9_boundIn_27 (by first | rfl | assumption) (by omega) (by omega) (by decide) ?_
      refine ev_iconst dX9_boundIn_28 ?_
      refine ev_icmp_ne (tgt := 50) dX9_boundIn_29 (by decide) (by omega) (by omega) (fun hb29 => ?_) (fun hb29 => ?_)
      · refine ev_bipush dX9_boundIn_50 ?_
        refine ev_istore dX9_boundIn_52 (by decide) ?_
        refine ev_iload dX9_boundIn_54 rfl ?_
        refine ev_iload dX9_boundIn_56 rfl ?_
        refine ev_icmp_le (tgt := 66) dX9_boundIn_58 (by decide) (by omega) (by omega) (fun hb58 => ?_) (fun hb58 => ?_)
        · refine ev_iload dX9_boundIn_66 rfl ?_
          refine ev_istore dX9_boundIn_68 (by decide) ?_
          refine ev_iinc dX9_boundIn_70 rfl (by decide) ?_
          refine ev_goto (tgt := 7) dX9_boundIn_73 (by decide) ?_
          refine ev_to hP ⟨rfl, rfl, rfl, rfl, ?_, rfl, trivial⟩ rfl rfl rfl rfl
          refine congrArg (fun z => some (some (vI z))) ?_
          simp only [mxA]
          split <;> omega
        · refine ev_iload dX9_boundIn_61 rfl ?_
          refine ev_goto (tgt := 68) dX9_boundIn_63 (by decide) ?_
          refine ev_istore dX9_boundIn_68 (by decide) ?_
          refine ev_iinc dX9_boundIn_70 rfl (by decide) ?_
          refine ev_goto (tgt := 7) dX9_boundIn_73 (by decide) ?_
          refine ev_to hP ⟨rfl, rfl, rfl, rfl, ?_, rfl, trivial⟩ rfl rfl rfl rfl
          refine congrArg (fun z => some (some (vI z))) ?_
          simp only [mxA]
          split <;> omega
      · first | refine ev_aload_n dX9_boundIn_32 rfl ?_ | refine ev_aloadX_n dX9_boundIn_32 rfl ?_
        refine ev_iload dX9_boundIn_33 rfl ?_
        refine ev_iload_n dX9_boundIn_35 rfl ?_
        refine ev_callv (ci := 9) (k_signed hip ha M hs) dX9_boundIn_36 tX9_signed.1 kX9_152 tX9_signed.2.1 tX9_signed.2.2.1 rfl (by first | rfl | assumption) tX9_signed.2.2.2 ⟨⟨Nat.le_of_ble_eq_true rfl, Nat.le_of_ble_eq_true rfl⟩, Nat.le_of_ble_eq_true rfl, Nat.le_of_ble_eq_true rfl⟩ rfl (Nat.le_of_ble_eq_true rfl) ?_
        rintro r K' M' P' ⟨rfl, rfl, rfl, hM'⟩
        rw [hM']
        clear hM' M'
        first | refine ev_aload_n dX9_boundIn_39 rfl ?_ | refine ev_aloadX_n dX9_boundIn_39 rfl ?_
        refine ev_iload dX9_boundIn_40 rfl ?_
        refine ev_iload_n dX9_boundIn_42 rfl ?_
        refine ev_callv (ci := 9) (k_signed hip hb M hs) dX9_boundIn_43 tX9_signed.1 kX9_152 tX9_signed.2.1 tX9_signed.2.2.1 rfl (by first | rfl | assumption) tX9_signed.2.2.2 ⟨⟨Nat.le_of_ble_eq_true rfl, Nat.le_of_ble_eq_true rfl⟩, Nat.le_of_ble_eq_true rfl, Nat.le_of_ble_eq_true rfl⟩ rfl (Nat.le_of_ble_eq_true rfl) ?_
        rintro r K' M' P' ⟨rfl, rfl, rfl, hM'⟩
        rw [hM']
        clear hM' M'
        refine ev_iadd dX9_boundIn_46 ?_
        refine ev_goto (tgt := 52) dX9_boundIn_47 (by decide) ?_
        refine ev_istore dX9_boundIn_52 (by decide) ?_
        refine ev_iload dX9_boundIn_54 rfl ?_
        refine ev_iload dX9_boundIn_56 rfl ?_
        refine ev_icmp_le (tgt := 66) dX9_boundIn_58 (by decide) (by omega) (by omega) (fun hb58 => ?_) (fun hb58 => ?_)
        · refine ev_iload dX9_boundIn_66 rfl ?_
          refine ev_istore dX9_boundIn_68 (by decide) ?_
          refine ev_iinc dX9_boundIn_70 rfl (by decide) ?_
          refine ev_goto (tgt := 7) dX9_boundIn_73 (by decide) ?_
          refine ev_to hP ⟨rfl, rfl, rfl, rfl, ?_, rfl, trivial⟩ rfl rfl rfl rfl
          refine congrArg (fun z => some (some (vI z))) ?_
          simp only [mxA]
          split <;> omega
        · refine ev_iload dX9_boundIn_61 rfl ?_
          refine ev_goto (tgt := 68) dX9_boundIn_63 (by decide) ?_
          refine ev_istore dX9_boundIn_68 (by decide) ?_
          refine ev_iinc dX9_boundIn_70 rfl (by decide) ?_
          refine ev_goto (tgt := 7) dX9_boundIn_73 (by decide) ?_
          refine ev_to hP ⟨rfl, rfl, rfl, rfl, ?_, rfl, trivial⟩ rfl rfl rfl rfl
          refine congrArg (fun z => some (some (vI z))) ?_
          simp only [mxA]
          split <;> omega
/-- the upper bounds raised by p, as far as a, b -/
def rsS (p a b : Int) (f : Int → Int) : Int → Int := fun j => if (0 ≤ j ∧ j < 36) ∧ j / 6 ≤ j % 6 ∧ (j / 6 < a ∨ (j / 6 = a ∧ j % 6 < b)) then max (f j) (pv p (j / 6) + pv p (j % 6)) else f j
theorem rsS_0 (p : Int) (f : Int → Int) : rsS p 0 0 f = f := by
  funext j
  unfold rsS
  rw [if_neg (by omega)]
theorem fillS_0 (z : Int) (f : Int → Int) : fillS z f 0 = f := by
  funext j
  unfold fillS
  rw [if_neg (by omega)]
theorem k_raise {p : Int} {c : Nat} (hp : inP p) (hK : KK[c]? = some (.inr (.inl 36))) (hc : c ≠ 59) (M : Mm) (hs : sgA M) (hB : ∀ j, 0 ≤ j → j < 36 → -1000 ≤ M c j ∧ M c j ≤ 1000) : Cm mX9_raise [vR 54, vI p, vR c] M (fun r M' => r = none ∧ M' = rwc M c (rsS p 6 0 (M c))) := by
  have o59 : ∀ f, rwc M c f 59 = M 59 := fun f => rwc_ne (Ne.symm hc)
  refine cm_of (by decide +kernel) (fun _ => trivial) (Nat.le_of_ble_eq_true rfl) ?_
  refine ev_iconst dX9_raise_0 ?_
  refine ev_istore_n dX9_raise_1 (by decide) ?_
  refine ev_to (L' := [some (vR 54), some (vI p), some (vR c), some (vI ((0 : Nat) : Int)), none, none]) (S' := []) (M' := rwc M c (rsS p (0 : Nat) 0 (M c))) (k' := 0) (n' := 0) ?_ (by repeat (first | exact trivial | refine ⟨rfl, ?_⟩)) (by show M = rwc M c (rsS p 0 0 (M c)); rw [rsS_0, rwc_self]) rfl rfl rfl
  refine up_loop (P := fun i => Ev mX9_raise 2 [some (vR 54), some (vI p), some (vR c), some (vI (i : Int)), none, none] [] KK (rwc M c (rsS p i 0 (M c))) PP 0 0 _) 6 ?_ ?_
  · refine ev_iload_n dX9_raise_2 rfl ?_
    refine ev_bipush dX9_raise_3 ?_
    refine ev_icmp_ge (tgt := 93) dX9_raise_5 (by decide) (by omega) (by omega) (fun hb5 => ?_) (fun hb5 => ?_)
    · exact ev_return dX9_raise_93 rfl (rz ⟨rfl, rfl⟩)
    · omega
  · intro a ha hP
    have ea : rsS p a 0 (M c) = rsS p a a (M c) := by
      funext j
      unfold rsS
      split <;> split <;> first | rfl | omega
    rw [ea]
    have hin : Ev mX9_raise 11 [some (vR 54), some (vI p), some (vR c), some (vI (a : Int)), some (vI (a : Int)), none] [] KK (rwc M c (rsS p a a (M c))) PP 0 0 (Rz mX9_raise fun r M' => r = none ∧ M' = rwc M c (rsS p 6 0 (M c))) := by
      refine up_from (P := fun b => Ev mX9_raise 11 [some (vR 54), some (vI p), some (vR c), some (vI (a : Int)), some (vI (b : Int)), none] [] KK (rwc M c (rsS p a b (M c))) PP 0 0 _) a 6 (by omega) ?_ ?_
      · refine ev_iload dX9_raise_11 rfl ?_
        refine ev_bipush dX9_raise_13 ?_
        refine ev_icmp_ge (tgt := 87) dX9_raise_15 (by decide) (by omega) (by omega) (fun hb15 => ?_) (fun hb15 => ?_)
        · refine ev_iinc dX9_raise_87 rfl (by decide) ?_
          refine ev_goto (tgt := 2) dX9_raise_90 (by decide) ?_
          refine ev_to hP ⟨rfl, rfl, rfl, rfl, trivial⟩ ?_ rfl rfl rfl
          congr 1
          funext j
          unfold rsS
          split <;> split <;> first | rfl | omega
        · omega
      · intro b hb1 hb2 hQ
        have e1 := hs p a hp (by omega)
        have e2 := hs p b hp (by omega)
        have pa := pv_rng hp (a : Int)
        have pb := pv_rng hp (b : Int)
        have e3 : rsS p a b (M c) (6 * (a : Int) + (b : Int)) = M c (6 * (a : Int) + (b : Int)) := by unfold rsS; rw [if_neg (by omega)]
        have h3 := hB (6 * (a : Int) + (b : Int)) (by omega) (by omega)
        refine ev_iload dX9_raise_11 rfl ?_
        refine ev_bipush dX9_raise_13 ?_
        refine ev_icmp_ge (tgt := 87) dX9_raise_15 (by decide) (by omega) (by omega) (fun hb15 => ?_) (fun hb15 => ?_)
        · omega
        · first | refine ev_aload_n dX9_raise_18 rfl ?_ | refine ev_aloadX_n dX9_raise_18 rfl ?_
          refine ev_getR dX9_raise_19 fX9_23 rfl (by first | rfl | assumption) (by first | rfl | assumption) ?_
          refine ev_bipush dX9_raise_22 ?_
          refine ev_iload_n dX9_raise_24 rfl ?_
          refine ev_imul dX9_raise_25 ?_
          refine ev_iload_n dX9_raise_26 rfl ?_
          refine ev_iadd dX9_raise_27 ?_
          refine ev_iaload dX9_raise_28 (by first | rfl | assumption) (by omega) (by omega) (by decide) ?_
          rw [o59, e1]
          first | refine ev_aload_n dX9_raise_29 rfl ?_ | refine ev_aloadX_n dX9_raise_29 rfl ?_
          refine ev_getR dX9_raise_30 fX9_23 rfl (by first | rfl | assumption) (by first | rfl | assumption) ?_
          refine ev_bipush dX9_raise_33 ?_
          refine ev_iload_n dX9_raise_35 rfl ?_
          refine ev_imul dX9_raise_36 ?_
          refine ev_iload dX9_raise_37 rfl ?_
          refine ev_iadd dX9_raise_39 ?_
          refine ev_iaload dX9_raise_40 (by first | rfl | assumption) (by omega) (by omega) (by decide) ?_
          rw [o59, e2]
          refine ev_iadd dX9_raise_41 ?_
          refine ev_istore dX9_raise_42 (by decide) ?_
          first | refine ev_aload_n dX9_raise_44 rfl ?_ | refine ev_aloadX_n dX9_raise_44 rfl ?_
          refine ev_bipush dX9_raise_45 ?_
          refine ev_iload_n dX9_raise_47 rfl ?_
          refine ev_imul dX9_raise_48 ?_
          refine ev_iload dX9_raise_49 rfl ?_
          refine ev_iadd dX9_raise_51 ?_
          refine ev_iload dX9_raise_52 rfl ?_
          first | refine ev_aload_n dX9_raise_54 rfl ?_ | refine ev_aloadX_n dX9_raise_54 rfl ?_
          refine ev_bipush dX9_raise_55 ?_
          refine ev_iload_n dX9_raise_57 rfl ?_
          refine ev_imul dX9_raise_58 ?_
          refine ev_iload dX9_raise_59 rfl ?_
          refine ev_iadd dX9_raise_61 ?_
          refine ev_iaload dX9_raise_62 (by first | rfl | assumption) (by omega) (by omega) (by decide) ?_
          rw [rwc_at, e3]
          refine ev_icmp_le (tgt := 71) dX9_raise_63 (by decide) (by omega) (by omega) (fun hb63 => ?_) (fun hb63 => ?_)
          · first | refine ev_aload_n dX9_raise_71 rfl ?_ | refine ev_aloadX_n dX9_raise_71 rfl ?_
            refine ev_bipush dX9_raise_72 ?_
            refine ev_iload_n dX9_raise_74 rfl ?_
            refine ev_imul dX9_raise_75 ?_
            refine ev_iload dX9_raise_76 rfl ?_
            refine ev_iadd dX9_raise_78 ?_
            refine ev_iaload dX9_raise_79 (by first | rfl | assumption) (by omega) (by omega) (by decide) ?_
            try rw [rwc_at, e3]
            refine ev_iastore dX9_raise_80 (by first | rfl | assumption) (by omega) (by omega) (by decide) ?_
            refine ev_iinc dX9_raise_81 rfl (by decide) ?_
            refine ev_goto (tgt := 11) dX9_raise_84 (by decide) ?_
            refine ev_to hQ ⟨rfl, rfl, rfl, rfl, rfl, trivial⟩ ?_ rfl rfl rfl
            rw [upM_rw, rwc_rwc, rwc_at]
            congr 1
            funext j
            unfold rsS up1
            by_cases hj : j = 6 * (a : Int) + (b : Int)
            · subst hj
              have d1 : (6 * (a : Int) + (b : Int)) / 6 = a := by omega
              have d2 : (6 * (a : Int) + (b : Int)) % 6 = b := by omega
              rw [if_pos rfl, if_pos (by omega), d1, d2]
              omega
            · rw [if_neg hj]
              dsimp only
              split <;> split <;> first | rfl | omega
          · refine ev_iload dX9_raise_66 rfl ?_
            refine ev_goto (tgt := 80) dX9_raise_68 (by decide) ?_
            try rw [rwc_at, e3]
            refine ev_iastore dX9_raise_80 (by first | rfl | assumption) (by omega) (by omega) (by decide) ?_
            refine ev_iinc dX9_raise_81 rfl (by decide) ?_
            refine ev_goto (tgt := 11) dX9_raise_84 (by decide) ?_
            refine ev_to hQ ⟨rfl, rfl, rfl, rfl, rfl, trivial⟩ ?_ rfl rfl rfl
            rw [upM_rw, rwc_rwc, rwc_at]
            congr 1
            funext j
            unfold rsS up1
            by_cases hj : j = 6 * (a : Int) + (b : Int)
            · subst hj
              have d1 : (6 * (a : Int) + (b : Int)) / 6 = a := by omega
              have d2 : (6 * (a : Int) + (b : Int)) % 6 = b := by omega
              rw [if_pos rfl, if_pos (by omega), d1, d2]
              omega
            · rw [if_neg hj]
              dsimp only
              split <;> split <;> first | rfl | omega
    refine ev_iload_n dX9_raise_2 rfl ?_
    refine ev_bipush dX9_raise_3 ?_
    refine ev_icmp_ge (tgt := 93) dX9_raise_5 (by decide) (by omega) (by omega) (fun hb5 => ?_) (fun hb5 => ?_)
    · omega
    · refine ev_iload_n dX9_raise_8 rfl ?_
      refine ev_istore dX9_raise_9 (by decide) ?_
      exact ev_to hin (by repeat (first | exact trivial | refine ⟨rfl, ?_⟩)) rfl rfl rfl rfl
/-- bounds laid of the first i points -/
def lbS (u : Int → Int) (i : Nat) (f : Int → Int) : Int → Int := fun j => if 0 ≤ j ∧ j < 36 then (if j / 6 ≤ j % 6 then mxA u (j / 6) (j % 6) i else -99) else f j
def mbS (u : Int → Int) (i : Nat) (f : Int → Int) : Int → Int := fun j => if 0 ≤ j ∧ j < 36 then (if j / 6 ≤ j % 6 ∨ j < i then mxA u (j / 6) (j % 6) 4913 else -99) else f j
noncomputable def bnS (f : Int → Int) (S : PS) : Int → Int := fun j => if 0 ≤ j ∧ j < 36 then bnF S j else f j
theorem k_layBounds {k c : Nat} (hk : k ≤ 9) (hK : KK[c]? = some (.inr (.inl 36))) (hc : c ≠ 59) (hc2 : c ≠ 58) (M : Mm) (hs : sgA M) {S : PS} (hS : Rw (M 58) k S) : Cm mX9_layBounds [vR 54, vI (k : Int), vR c] M (fun r M' => r = none ∧ M' = rwc M c (bnS (M c) S)) := by
  have o58 : ∀ f, rwc M c f 58 = M 58 := fun f => rwc_ne (Ne.symm hc2)
  have o59 : ∀ f, rwc M c f 59 = M 59 := fun f => rwc_ne (Ne.symm hc)
  generalize hu : (fun p => M 58 (4913 * (k : Int) + p)) = u
  have hui : ∀ i : Nat, M 58 (4913 * (k : Int) + (i : Int)) = u i := fun i => by rw [← hu]
  have hend : mbS u 36 (M c) = bnS (M c) S := by
    funext j
    unfold mbS bnS bnF
    split
    · rw [if_pos (by omega), ← hu, hS.mx]
    · rfl
  have hsy : ∀ a b, mxA u a b 4913 = mxA u b a 4913 := fun a b => mxA_sym u a b 4913
  -- the last loop
  have h3 : Ev mX9_layBounds 58 [some (vR 54), some (vI (k : Int)), some (vR c), some (vI ((0 : Nat) : Int))] [] KK (rwc M c (mbS u 0 (M c))) PP 0 0 (Rz mX9_layBounds (fun r M' => r = none ∧ M' = rwc M c (bnS (M c) S))) := by
    refine ev_to (L' := [some (vR 54), some (vI (k : Int)), some (vR c), some (vI ((0 : Nat) : Int))]) (S' := []) (M' := rwc M c (mbS u (0 : Nat) (M c))) (k' := 0) (n' := 0) ?_ (by repeat (first | exact trivial | refine ⟨rfl, ?_⟩)) rfl rfl rfl rfl
    refine up_loop (P := fun i => Ev mX9_layBounds 58 [some (vR 54), some (vI (k : Int)), some (vR c), some (vI (i : Int))] [] KK (rwc M c (mbS u i (M c))) PP 0 0 _) 36 ?_ ?_
    · rw [hend]
      refine ev_iload_n dX9_layBounds_58 rfl ?_
      refine ev_bipush dX9_layBounds_59 ?_
      refine ev_icmp_ge (tgt := 102) dX9_layBounds_61 (by decide) (by omega) (by omega) (fun hb61 => ?_) (fun hb61 => ?_)
      · exact ev_return dX9_layBounds_102 rfl (rz ⟨rfl, rfl⟩)
      · omega
    · intro i hi hP
      have d1 : ((i : Int)).tdiv 6 = (i : Int) / 6 := Int.tdiv_eq_ediv_of_nonneg (by omega)
      have d2 : ((i : Int)).tmod 6 = (i : Int) % 6 := tmod_nn (by omega)
      have v1 : (i : Int) / 6 < (i : Int) % 6 → mbS u i (M c) i = mxA u ((i : Int) / 6) ((i : Int) % 6) 4913 := fun h => by unfold mbS; rw [if_pos (by omega), if_pos (by omega)]
      have v2 : (i : Int) % 6 ≤ (i : Int) / 6 → mbS u i (M c) ((i : Int) % 6 * 6 + (i : Int) / 6) = mxA u ((i : Int) / 6) ((i : Int) % 6) 4913 := fun h => by
        have e1 : ((i : Int) % 6 * 6 + (i : Int) / 6) / 6 = (i : Int) % 6 := by omega
        have e2 : ((i : Int) % 6 * 6 + (i : Int) / 6) % 6 = (i : Int) / 6 := by omega
        unfold mbS
        rw [if_pos (by omega), e1, e2, if_pos (by omega), hsy]
      refine ev_iload_n dX9_layBounds_58 rfl ?_
      refine ev_bipush dX9_layBounds_59 ?_
      refine ev_icmp_ge (tgt := 102) dX9_layBounds_61 (by decide) (by omega) (by omega) (fun hb61 => ?_) (fun hb61 => ?_)
      · omega
      · first | refine ev_aload_n dX9_layBounds_64 rfl ?_ | refine ev_aloadX_n dX9_layBounds_64 rfl ?_
        refine ev_iload_n dX9_layBounds_65 rfl ?_
        first | refine ev_aload_n dX9_layBounds_66 rfl ?_ | refine ev_aloadX_n dX9_layBounds_66 rfl ?_
        refine ev_iload_n dX9_layBounds_67 rfl ?_
        refine ev_bipush dX9_layBounds_68 ?_
        refine ev_idiv dX9_layBounds_70 (by omega) (by omega) (by omega) (by omega) ?_
        refine ev_iload_n dX9_layBounds_71 rfl ?_
        refine ev_bipush dX9_layBounds_72 ?_
        refine ev_irem dX9_layBounds_74 (by omega) (by omega) (by omega) (by omega) ?_
        rw [d1, d2]
        refine ev_icmp_ge (tgt := 82) dX9_layBounds_75 (by decide) (by omega) (by omega) (fun hb75 => ?_) (fun hb75 => ?_)
        · refine ev_iload_n dX9_layBounds_82 rfl ?_
          refine ev_bipush dX9_layBounds_83 ?_
          refine ev_irem dX9_layBounds_85 (by omega) (by omega) (by omega) (by omega) ?_
          rw [d2]
          refine ev_bipush dX9_layBounds_86 ?_
          refine ev_imul dX9_layBounds_88 ?_
          refine ev_iload_n dX9_layBounds_89 rfl ?_
          refine ev_bipush dX9_layBounds_90 ?_
          refine ev_idiv dX9_layBounds_92 (by omega) (by omega) (by omega) (by omega) ?_
          rw [d1]
          refine ev_iadd dX9_layBounds_93 ?_
          refine ev_iaload dX9_layBounds_94 (by first | rfl | assumption) (by omega) (by omega) (by decide) ?_
          rw [rwc_at]
          first | rw [v1 (by omega)] | rw [v2 (by omega)]
          refine ev_iastore dX9_layBounds_95 (by first | rfl | assumption) (by omega) (by omega) (by decide) ?_
          refine ev_iinc dX9_layBounds_96 rfl (by decide) ?_
          refine ev_goto (tgt := 58) dX9_layBounds_99 (by decide) ?_
          refine ev_to hP ⟨rfl, rfl, rfl, rfl, trivial⟩ ?_ rfl rfl rfl
          rw [upM_rw, rwc_rwc, rwc_at]
          congr 1
          funext j
          unfold mbS up1
          by_cases hj : j = (i : Int)
          · subst hj
            rw [if_pos rfl, if_pos (by omega), if_pos (by omega)]
          · rw [if_neg hj]
            dsimp only
            split
            · split <;> split <;> first | rfl | omega
            · rfl
        · refine ev_iload_n dX9_layBounds_78 rfl ?_
          refine ev_goto (tgt := 94) dX9_layBounds_79 (by decide) ?_
          refine ev_iaload dX9_layBounds_94 (by first | rfl | assumption) (by omega) (by omega) (by decide) ?_
          rw [rwc_at]
          first | rw [v1 (by omega)] | rw [v2 (by omega)]
          refine ev_iastore dX9_layBounds_95 (by first | rfl | assumption) (by omega) (by omega) (by decide) ?_
          refine ev_iinc dX9_layBounds_96 rfl (by decide) ?_
          refine ev_goto (tgt := 58) dX9_layBounds_99 (by decide) ?_
          refine ev_to hP ⟨rfl, rfl, rfl, rfl, trivial⟩ ?_ rfl rfl rfl
          rw [upM_rw, rwc_rwc, rwc_at]
          congr 1
          funext j
          unfold mbS up1
          by_cases hj : j = (i : Int)
          · subst hj
            rw [if_pos rfl, if_pos (by omega), if_pos (by omega)]
          · rw [if_neg hj]
            dsimp only
            split
            · split <;> split <;> first | rfl | omega
            · rfl
  have h2 : Ev mX9_layBounds 21 [some (vR 54), some (vI (k : Int)), some (vR c), some (vI ((0 : Nat) : Int))] [] KK (rwc M c (lbS u 0 (M c))) PP 0 0 (Rz mX9_layBounds (fun r M' => r = none ∧ M' = rwc M c (bnS (M c) S))) := by
    refine ev_to (L' := [some (vR 54), some (vI (k : Int)), some (vR c), some (vI ((0 : Nat) : Int))]) (S' := []) (M' := rwc M c (lbS u (0 : Nat) (M c))) (k' := 0) (n' := 0) ?_ (by repeat (first | exact trivial | refine ⟨rfl, ?_⟩)) rfl rfl rfl rfl
    refine up_loop (P := fun i => Ev mX9_layBounds 21 [some (vR 54), some (vI (k : Int)), some (vR c), some (vI (i : Int))] [] KK (rwc M c (lbS u i (M c))) PP 0 0 _) 4913 ?_ ?_
    · have e : lbS u 4913 (M c) = mbS u 0 (M c) := by
        funext j
        unfold lbS mbS
        try dsimp only
        split
        · rename_i hq
          try rw [if_pos hq]
          split <;> split <;> first | rfl | omega
        · rfl
      rw [e]
      refine ev_iload_n dX9_layBounds_21 rfl ?_
      refine ev_sipush dX9_layBounds_22 ?_
      refine ev_icmp_ge (tgt := 56) dX9_layBounds_25 (by decide) (by omega) (by omega) (fun hb25 => ?_) (fun hb25 => ?_)
      · refine ev_iconst dX9_layBounds_56 ?_
        refine ev_istore_n dX9_layBounds_57 (by decide) ?_
        exact ev_to h3 (by repeat (first | exact trivial | refine ⟨rfl, ?_⟩)) rfl rfl rfl rfl
      · omega
    · intro i hi hP
      have hip : inP (i : Int) := by omega
      have h01 := hS.v01 hip
      rw [hui] at h01
      have bl : ∀ j, 0 ≤ j → j < 36 → -1000 ≤ lbS u i (M c) j ∧ lbS u i (M c) j ≤ 1000 := by
        intro j q1 q2
        have l1 := mxA_lo u (j / 6) (j % 6) i
        have l2 := mxA_hi (u := u) (a := j / 6) (b := j % 6) (i := i) (by omega)
        unfold lbS
        rw [if_pos ⟨q1, q2⟩]
        split <;> omega
      have n1 : u i = 1 → rsS i 6 0 (lbS u i (M c)) = lbS u (i + 1) (M c) := fun h => by
        funext j
        unfold rsS lbS
        by_cases q1 : 0 ≤ j ∧ j < 36
        · rw [if_pos q1, if_pos q1]
          by_cases q2 : j / 6 ≤ j % 6
          · rw [if_pos ⟨q1, q2, by omega⟩, if_pos q2, if_pos q2]
            simp only [mxA]
            rw [if_pos h]
          · rw [if_neg (fun z => q2 z.2.1), if_neg q2, if_neg q2]
        · rw [if_neg q1, if_neg q1, if_neg (fun z => q1 z.1)]
      have n0 : u i ≠ 1 → lbS u i (M c) = lbS u (i + 1) (M c) := fun h => by
        funext j
        unfold lbS
        split
        · split
          · simp only [mxA]
            rw [if_neg h]
          · rfl
        · rfl
      refine ev_iload_n dX9_layBounds_21 rfl ?_
      refine ev_sipush dX9_layBounds_22 ?_
      refine ev_icmp_ge (tgt := 56) dX9_layBounds_25 (by decide) (by omega) (by omega) (fun hb25 => ?_) (fun hb25 => ?_)
      · omega
      · first | refine ev_aload_n dX9_layBounds_28 rfl ?_ | refine ev_aloadX_n dX9_layBounds_28 rfl ?_
        refine ev_getR dX9_layBounds_29 fX9_20 rfl (by first | rfl | assumption) (by first | rfl | assumption) ?_
        refine ev_sipush dX9_layBounds_32 ?_
        refine ev_iload_n dX9_layBounds_35 rfl ?_
        refine ev_imul dX9_layBounds_36 ?_
        refine ev_iload_n dX9_layBounds_37 rfl ?_
        refine ev_iadd dX9_layBounds_38 ?_
        refine ev_iaload dX9_layBounds_39 (by first | rfl | assumption) (by omega) (by omega) (by decide) ?_
        rw [o58, hui]
        refine ev_iconst dX9_layBounds_40 ?_
        refine ev_icmp_ne (tgt := 50) dX9_layBounds_41 (by decide) (by omega) (by omega) (fun hb41 => ?_) (fun hb41 => ?_)
        · refine ev_iinc dX9_layBounds_50 rfl (by decide) ?_
          refine ev_goto (tgt := 21) dX9_layBounds_53 (by decide) ?_
          refine ev_to hP ⟨rfl, rfl, rfl, rfl, trivial⟩ ?_ rfl rfl rfl
          first | rw [rwc_rwc, rwc_at, n1 (by omega)] | rw [n0 (by omega)]
        · first | refine ev_aload_n dX9_layBounds_44 rfl ?_ | refine ev_aloadX_n dX9_layBounds_44 rfl ?_
          refine ev_iload_n dX9_layBounds_45 rfl ?_
          first | refine ev_aload_n dX9_layBounds_46 rfl ?_ | refine ev_aloadX_n dX9_layBounds_46 rfl ?_
          refine ev_callv (ci := 9) (k_raise hip hK hc _ (by intro p a; rw [o59]; exact hs p a) (by rw [rwc_at]; exact bl)) dX9_layBounds_47 tX9_raise.1 kX9_177 tX9_raise.2.1 tX9_raise.2.2.1 rfl (by first | rfl | assumption) tX9_raise.2.2.2 ⟨⟨Nat.le_of_ble_eq_true rfl, Nat.le_of_ble_eq_true rfl⟩, Nat.le_of_ble_eq_true rfl, Nat.le_of_ble_eq_true rfl⟩ rfl (Nat.le_of_ble_eq_true rfl) ?_
          rintro r K' M' P' ⟨rfl, rfl, rfl, hM'⟩
          rw [hM']
          clear hM' M'
          refine ev_iinc dX9_layBounds_50 rfl (by decide) ?_
          refine ev_goto (tgt := 21) dX9_layBounds_53 (by decide) ?_
          refine ev_to hP ⟨rfl, rfl, rfl, rfl, trivial⟩ ?_ rfl rfl rfl
          first | rw [rwc_rwc, rwc_at, n1 (by omega)] | rw [n0 (by omega)]
  refine cm_of (by decide +kernel) (fun _ => trivial) (Nat.le_of_ble_eq_true rfl) ?_
  refine ev_iconst dX9_layBounds_0 ?_
  refine ev_istore_n dX9_layBounds_1 (by decide) ?_
  refine ev_to (L' := [some (vR 54), some (vI (k : Int)), some (vR c), some (vI ((0 : Nat) : Int))]) (S' := []) (M' := rwc M c (fillS (-99) (M c) (0 : Nat))) (k' := 0) (n' := 0) ?_ (by repeat (first | exact trivial | refine ⟨rfl, ?_⟩)) (by show M = rwc M c (fillS (-99) (M c) 0); rw [fillS_0, rwc_self]) rfl rfl rfl
  refine up_loop (P := fun i => Ev mX9_layBounds 2 [some (vR 54), some (vI (k : Int)), some (vR c), some (vI (i : Int))] [] KK (rwc M c (fillS (-99) (M c) i)) PP 0 0 _) 36 ?_ ?_
  · have e : fillS (-99) (M c) 36 = lbS u 0 (M c) := by
      funext j
      unfold fillS lbS
      by_cases q1 : 0 ≤ j ∧ j < 36
      · rw [if_pos q1, if_pos (by omega)]
        split <;> rfl
      · rw [if_neg q1, if_neg (by omega)]
    rw [e]
    refine ev_iload_n dX9_layBounds_2 rfl ?_
    refine ev_bipush dX9_layBounds_3 ?_
    refine ev_icmp_ge (tgt := 19) dX9_layBounds_5 (by decide) (by omega) (by omega) (fun hb5 => ?_) (fun hb5 => ?_)
    · refine ev_iconst dX9_layBounds_19 ?_
      refine ev_istore_n dX9_layBounds_20 (by decide) ?_
      exact ev_to h2 (by repeat (first | exact trivial | refine ⟨rfl, ?_⟩)) rfl rfl rfl rfl
    · omega
  · intro i hi hP
    refine ev_iload_n dX9_layBounds_2 rfl ?_
    refine ev_bipush dX9_layBounds_3 ?_
    refine ev_icmp_ge (tgt := 19) dX9_layBounds_5 (by decide) (by omega) (by omega) (fun hb5 => ?_) (fun hb5 => ?_)
    · omega
    · first | refine ev_aload_n dX9_layBounds_8 rfl ?_ | refine ev_aloadX_n dX9_layBounds_8 rfl ?_
      refine ev_iload_n dX9_layBounds_9 rfl ?_
      refine ev_bipush dX9_layBounds_10 ?_
      refine ev_iastore dX9_layBounds_12 (by first | rfl | assumption) (by omega) (by omega) (by decide) ?_
      refine ev_iinc dX9_layBounds_13 rfl (by decide) ?_
      refine ev_goto (tgt := 2) dX9_layBounds_16 (by decide) ?_
      refine ev_to hP ⟨rfl, rfl, rfl, rfl, trivial⟩ ?_ rfl rfl rfl
      rw [upM_rw, rwc_rwc, rwc_at]
      congr 1
      funext j
      unfold fillS up1
      by_cases hj : j = (i : Int)
      · rw [if_pos hj, if_pos (by omega)]
      · rw [if_neg hj]
        dsimp only
        split <;> split <;> first | rfl | omega
