/-! ===== the reference: rows by bounds, copied, joined, compared ===== -/
noncomputable def ptS (f : Int → Int) (t : Nat) (S : PS) (i : Nat) : Int → Int := fun j => if 4913 * (t : Int) ≤ j ∧ j < 4913 * (t : Int) + i then ind S (j - 4913 * (t : Int)) else f j
theorem ptS_0 (f : Int → Int) (t : Nat) (S : PS) : ptS f t S 0 = f := by
  funext j
  unfold ptS
  rw [if_neg (by omega)]
theorem ptS_e (f : Int → Int) (t : Nat) (S : PS) : ptS f t S 4913 = setS f t S := by
  funext j
  unfold ptS setS
  split <;> split <;> first | rfl | omega
theorem ptS_s (f : Int → Int) (t : Nat) (S : PS) (i : Nat) {z : Int} (hz : z = ind S i) : up1 (ptS f t S i) (4913 * (t : Int) + i) z = ptS f t S (i + 1) := by
  funext j
  unfold ptS up1
  by_cases hj : j = 4913 * (t : Int) + i
  · rw [if_pos hj, if_pos (by omega), hz]
    congr 1
    omega
  · rw [if_neg hj]
    dsimp only
    split <;> split <;> first | rfl | omega
theorem k_isBy {p : Int} {c : Nat} (hp : inP p) (hK : KK[c]? = some (.inr (.inl 36))) (M : Mm) (hs : sgA M) (hB : ∀ j, 0 ≤ j → j < 36 → -1000 ≤ M c j ∧ M c j ≤ 1000) : Cm mX9_isBy [vR 54, vR c, vI p] M (fun r M' => yn (∀ a b, lit a → lit b → a ≤ b → pv p a + pv p b ≤ M c (6 * a + b)) r ∧ M' = M) := by
  refine cm_of (by decide +kernel) (fun _ => trivial) (Nat.le_of_ble_eq_true rfl) ?_
  refine ev_iconst dX9_isBy_0 ?_
  refine ev_istore_n dX9_isBy_1 (by decide) ?_
  refine ev_to (L' := [some (vR 54), some (vR c), some (vI p), some (vI ((0 : Nat) : Int)), none]) (S' := []) (M' := M) (k' := 0) (n' := 0) ?_ (by repeat (first | exact trivial | refine ⟨rfl, ?_⟩)) rfl rfl rfl rfl
  refine up_loop (P := fun i => (∀ a b, lit a → lit b → a ≤ b → a < (i : Int) → pv p a + pv p b ≤ M c (6 * a + b)) → Ev mX9_isBy 2 [some (vR 54), some (vR c), some (vI p), some (vI (i : Int)), none] [] KK M PP 0 0 _) 6 ?_ ?_ (fun a b h1 h2 h3 h4 => by omega)
  · intro hq
    refine ev_iload_n dX9_isBy_2 rfl ?_
    refine ev_bipush dX9_isBy_3 ?_
    refine ev_icmp_ge (tgt := 68) dX9_isBy_5 (by decide) (by omega) (by omega) (fun hb5 => ?_) (fun hb5 => ?_)
    · refine ev_iconst dX9_isBy_68 ?_
      exact ev_ireturn dX9_isBy_69 (okR_z rfl (by first | exact Or.inl rfl | exact Or.inr rfl | assumption)) (rz ⟨yn_1 (fun a b h1 h2 h3 => hq a b h1 h2 h3 (by omega)), rfl⟩)
    · omega
  · intro a ha hP hq
    have hin : Ev mX9_isBy 11 [some (vR 54), some (vR c), some (vI p), some (vI (a : Int)), some (vI (a : Int))] [] KK M PP 0 0 (Rz mX9_isBy (fun r M' => yn (∀ a b, lit a → lit b → a ≤ b → pv p a + pv p b ≤ M c (6 * a + b)) r ∧ M' = M)) := by
      refine up_from (P := fun b => (∀ y, lit y → (a : Int) ≤ y → y < (b : Int) → pv p a + pv p y ≤ M c (6 * (a : Int) + y)) → Ev mX9_isBy 11 [some (vR 54), some (vR c), some (vI p), some (vI (a : Int)), some (vI (b : Int))] [] KK M PP 0 0 _) a 6 (by omega) ?_ ?_ (fun y h1 h2 h3 => by omega)
      · intro hr
        refine ev_iload dX9_isBy_11 rfl ?_
        refine ev_bipush dX9_isBy_13 ?_
        refine ev_icmp_ge (tgt := 62) dX9_isBy_15 (by decide) (by omega) (by omega) (fun hb15 => ?_) (fun hb15 => ?_)
        · refine ev_iinc dX9_isBy_62 rfl (by decide) ?_
          refine ev_goto (tgt := 2) dX9_isBy_65 (by decide) ?_
          refine ev_to (hP (fun x y h1 h2 h3 h4 => ?_)) ⟨rfl, rfl, rfl, rfl, trivial⟩ rfl rfl rfl rfl
          by_cases hx : x = (a : Int)
          · subst hx; exact hr y h2 h3 (by omega)
          · exact hq x y h1 h2 h3 (by omega)
        · omega
      · intro b hb1 hb2 hQ hr
        have e1 := hs p a hp (by omega)
        have e2 := hs p b hp (by omega)
        have pa := pv_rng hp (a : Int)
        have pb := pv_rng hp (b : Int)
        have h3 := hB (6 * (a : Int) + (b : Int)) (by omega) (by omega)
        refine ev_iload dX9_isBy_11 rfl ?_
        refine ev_bipush dX9_isBy_13 ?_
        refine ev_icmp_ge (tgt := 62) dX9_isBy_15 (by decide) (by omega) (by omega) (fun hb15 => ?_) (fun hb15 => ?_)
        · omega
        · first | refine ev_aload_n dX9_isBy_18 rfl ?_ | refine ev_aloadX_n dX9_isBy_18 rfl ?_
          refine ev_getR dX9_isBy_19 fX9_23 rfl (by first | rfl | assumption) (by first | rfl | assumption) ?_
          refine ev_bipush dX9_isBy_22 ?_
          refine ev_iload_n dX9_isBy_24 rfl ?_
          refine ev_imul dX9_isBy_25 ?_
          refine ev_iload_n dX9_isBy_26 rfl ?_
          refine ev_iadd dX9_isBy_27 ?_
          refine ev_iaload dX9_isBy_28 (by first | rfl | assumption) (by omega) (by omega) (by decide) ?_
          rw [e1]
          first | refine ev_aload_n dX9_isBy_29 rfl ?_ | refine ev_aloadX_n dX9_isBy_29 rfl ?_
          refine ev_getR dX9_isBy_30 fX9_23 rfl (by first | rfl | assumption) (by first | rfl | assumption) ?_
          refine ev_bipush dX9_isBy_33 ?_
          refine ev_iload_n dX9_isBy_35 rfl ?_
          refine ev_imul dX9_isBy_36 ?_
          refine ev_iload dX9_isBy_37 rfl ?_
          refine ev_iadd dX9_isBy_39 ?_
          refine ev_iaload dX9_isBy_40 (by first | rfl | assumption) (by omega) (by omega) (by decide) ?_
          rw [e2]
          refine ev_iadd dX9_isBy_41 ?_
          first | refine ev_aload_n dX9_isBy_42 rfl ?_ | refine ev_aloadX_n dX9_isBy_42 rfl ?_
          refine ev_bipush dX9_isBy_43 ?_
          refine ev_iload_n dX9_isBy_45 rfl ?_
          refine ev_imul dX9_isBy_46 ?_
          refine ev_iload dX9_isBy_47 rfl ?_
          refine ev_iadd dX9_isBy_49 ?_
          refine ev_iaload dX9_isBy_50 (by first | rfl | assumption) (by omega) (by omega) (by decide) ?_
          refine ev_icmp_le (tgt := 56) dX9_isBy_51 (by decide) (by omega) (by omega) (fun hb51 => ?_) (fun hb51 => ?_)
          · refine ev_iinc dX9_isBy_56 rfl (by decide) ?_
            refine ev_goto (tgt := 11) dX9_isBy_59 (by decide) ?_
            refine ev_to (hQ (fun y h1 h2 h4 => ?_)) ⟨rfl, rfl, rfl, rfl, rfl, trivial⟩ rfl rfl rfl rfl
            by_cases hy : y = (b : Int)
            · subst hy; omega
            · exact hr y h1 h2 (by omega)
          · refine ev_iconst dX9_isBy_54 ?_
            exact ev_ireturn dX9_isBy_55 (okR_z rfl (by first | exact Or.inl rfl | exact Or.inr rfl | assumption)) (rz ⟨yn_0 (fun z => by have := z a b (by omega) (by omega) (by omega); omega), rfl⟩)
    refine ev_iload_n dX9_isBy_2 rfl ?_
    refine ev_bipush dX9_isBy_3 ?_
    refine ev_icmp_ge (tgt := 68) dX9_isBy_5 (by decide) (by omega) (by omega) (fun hb5 => ?_) (fun hb5 => ?_)
    · omega
    · refine ev_iload_n dX9_isBy_8 rfl ?_
      refine ev_istore dX9_isBy_9 (by decide) ?_
      exact ev_to hin (by repeat (first | exact trivial | refine ⟨rfl, ?_⟩)) rfl rfl rfl rfl
theorem byB_up {g : Int → Int} (hS : Sym g) {p : Int} (hp : inP p) : (∀ a b, lit a → lit b → a ≤ b → pv p a + pv p b ≤ g (6 * a + b)) ↔ byB g p := by
  constructor
  · intro h
    refine ⟨hp, fun a b ha hb => ?_⟩
    by_cases hab : a ≤ b
    · have := h a b ha hb hab
      show _ ≤ g (a * 6 + b)
      rw [Int.mul_comm]
      exact this
    · have := h b a hb ha (by omega)
      rw [hS a b ha hb]
      show _ ≤ g (b * 6 + a)
      rw [Int.mul_comm, Int.add_comm (pv p a)]
      exact this
  · rintro ⟨-, h⟩ a b ha hb _
    have := h a b ha hb
    have e : a * 6 + b = 6 * a + b := by omega
    simp only [mt, e] at this
    exact this
theorem k_layBy {t c : Nat} (ht : t ≤ 9) (hK : KK[c]? = some (.inr (.inl 36))) (hc2 : c ≠ 58) (M : Mm) (hs : sgA M) (hB : ∀ j, 0 ≤ j → j < 36 → -1000 ≤ M c j ∧ M c j ≤ 1000) (hS : Sym (M c)) : Cm mX9_layBy [vR 54, vR c, vI (t : Int)] M (fun r M' => r = none ∧ M' = rwc M 58 (setS (M 58) t (byB (M c)))) := by
  have oc : ∀ f, rwc M 58 f c = M c := fun f => rwc_ne hc2
  have o59 : ∀ f, rwc M 58 f 59 = M 59 := fun f => rwc_ne (by decide)
  refine cm_of (by decide +kernel) (fun _ => trivial) (Nat.le_of_ble_eq_true rfl) ?_
  refine ev_iconst dX9_layBy_0 ?_
  refine ev_istore_n dX9_layBy_1 (by decide) ?_
  refine ev_to (L' := [some (vR 54), some (vR c), some (vI (t : Int)), some (vI ((0 : Nat) : Int))]) (S' := []) (M' := rwc M 58 (ptS (M 58) t (byB (M c)) (0 : Nat))) (k' := 0) (n' := 0) ?_ (by repeat (first | exact trivial | refine ⟨rfl, ?_⟩)) (by show M = rwc M 58 (ptS (M 58) t (byB (M c)) 0); rw [ptS_0, rwc_self]) rfl rfl rfl
  refine up_loop (P := fun i => Ev mX9_layBy 2 [some (vR 54), some (vR c), some (vI (t : Int)), some (vI (i : Int))] [] KK (rwc M 58 (ptS (M 58) t (byB (M c)) i)) PP 0 0 _) 4913 ?_ ?_
  · refine ev_iload_n dX9_layBy_2 rfl ?_
    refine ev_sipush dX9_layBy_3 ?_
    refine ev_icmp_ge (tgt := 41) dX9_layBy_6 (by decide) (by omega) (by omega) (fun hb6 => ?_) (fun hb6 => ?_)
    · exact ev_return dX9_layBy_41 rfl (rz ⟨rfl, by rw [ptS_e]⟩)
    · omega
  · intro i hi hP
    have hip : inP (i : Int) := by omega
    refine ev_iload_n dX9_layBy_2 rfl ?_
    refine ev_sipush dX9_layBy_3 ?_
    refine ev_icmp_ge (tgt := 41) dX9_layBy_6 (by decide) (by omega) (by omega) (fun hb6 => ?_) (fun hb6 => ?_)
    · omega
    · first | refine ev_aload_n dX9_layBy_9 rfl ?_ | refine ev_aloadX_n dX9_layBy_9 rfl ?_
      refine ev_getR dX9_layBy_10 fX9_20 rfl (by first | rfl | assumption) (by first | rfl | assumption) ?_
      refine ev_sipush dX9_layBy_13 ?_
      refine ev_iload_n dX9_layBy_16 rfl ?_
      refine ev_imul dX9_layBy_17 ?_
      refine ev_iload_n dX9_layBy_18 rfl ?_
      refine ev_iadd dX9_layBy_19 ?_
      first | refine ev_aload_n dX9_layBy_20 rfl ?_ | refine ev_aloadX_n dX9_layBy_20 rfl ?_
      first | refine ev_aload_n dX9_layBy_21 rfl ?_ | refine ev_aloadX_n dX9_layBy_21 rfl ?_
      refine ev_iload_n dX9_layBy_22 rfl ?_
      refine ev_callv (ci := 9) (k_isBy hip hK _ (by intro p a; rw [o59]; exact hs p a) (by rw [oc]; exact hB)) dX9_layBy_23 tX9_isBy.1 kX9_181 tX9_isBy.2.1 tX9_isBy.2.2.1 rfl (by first | rfl | assumption) tX9_isBy.2.2.2 ⟨⟨Nat.le_of_ble_eq_true rfl, Nat.le_of_ble_eq_true rfl⟩, Nat.le_of_ble_eq_true rfl, Nat.le_of_ble_eq_true rfl⟩ rfl (Nat.le_of_ble_eq_true rfl) ?_
      rintro r K' M' P' ⟨rfl, rfl, ⟨v23, rfl, hw23, hv23⟩, hM'⟩
      rw [hM']
      clear hM' M'
      rw [oc, byB_up hS hip] at hv23
      refine ev_if_eq (tgt := 33) dX9_layBy_26 (by decide) (by omega) (fun hb26 => ?_) (fun hb26 => ?_)
      · have g23 := (not_congr hv23).mp (by omega)
        refine ev_iconst dX9_layBy_33 ?_
        refine ev_iastore dX9_layBy_34 (by first | rfl | assumption) (by omega) (by omega) (by decide) ?_
        refine ev_iinc dX9_layBy_35 rfl (by decide) ?_
        refine ev_goto (tgt := 2) dX9_layBy_38 (by decide) ?_
        refine ev_to hP ⟨rfl, rfl, rfl, rfl, trivial⟩ ?_ rfl rfl rfl
        rw [upM_rw, rwc_rwc, rwc_at]
        congr 1
        exact ptS_s _ _ _ _ (by first | rw [ind_1 g23] | rw [ind_0 g23])
      · have g23 := hv23.mp (by omega)
        refine ev_iconst dX9_layBy_29 ?_
        refine ev_goto (tgt := 34) dX9_layBy_30 (by decide) ?_
        refine ev_iastore dX9_layBy_34 (by first | rfl | assumption) (by omega) (by omega) (by decide) ?_
        refine ev_iinc dX9_layBy_35 rfl (by decide) ?_
        refine ev_goto (tgt := 2) dX9_layBy_38 (by decide) ?_
        refine ev_to hP ⟨rfl, rfl, rfl, rfl, trivial⟩ ?_ rfl rfl rfl
        rw [upM_rw, rwc_rwc, rwc_at]
        congr 1
        exact ptS_s _ _ _ _ (by first | rw [ind_1 g23] | rw [ind_0 g23])
theorem k_copyShape {k t : Nat} (hk : k ≤ 9) (ht : t ≤ 9) (hkt : k ≠ t) (M : Mm) {S : PS} (hS : Rw (M 58) k S) : Cm mX9_copyShape [vR 54, vI (k : Int), vI (t : Int)] M (fun r M' => r = none ∧ M' = rwc M 58 (setS (M 58) t S)) := by
  refine cm_of (by decide +kernel) (fun _ => trivial) (Nat.le_of_ble_eq_true rfl) ?_
  refine ev_iconst dX9_copyShape_0 ?_
  refine ev_istore_n dX9_copyShape_1 (by decide) ?_
  refine ev_to (L' := [some (vR 54), some (vI (k : Int)), some (vI (t : Int)), some (vI ((0 : Nat) : Int))]) (S' := []) (M' := rwc M 58 (ptS (M 58) t S (0 : Nat))) (k' := 0) (n' := 0) ?_ (by repeat (first | exact trivial | refine ⟨rfl, ?_⟩)) (by show M = rwc M 58 (ptS (M 58) t S 0); rw [ptS_0, rwc_self]) rfl rfl rfl
  refine up_loop (P := fun i => Ev mX9_copyShape 2 [some (vR 54), some (vI (k : Int)), some (vI (t : Int)), some (vI (i : Int))] [] KK (rwc M 58 (ptS (M 58) t S i)) PP 0 0 _) 4913 ?_ ?_
  · refine ev_iload_n dX9_copyShape_2 rfl ?_
    refine ev_sipush dX9_copyShape_3 ?_
    refine ev_icmp_ge (tgt := 39) dX9_copyShape_6 (by decide) (by omega) (by omega) (fun hb6 => ?_) (fun hb6 => ?_)
    · exact ev_return dX9_copyShape_39 rfl (rz ⟨rfl, by rw [ptS_e]⟩)
    · omega
  · intro i hi hP
    have hip : inP (i : Int) := by omega
    have e : ptS (M 58) t S i (4913 * (k : Int) + (i : Int)) = ind S i := by
      unfold ptS
      rw [if_neg (by omega)]
      exact hS i hip
    refine ev_iload_n dX9_copyShape_2 rfl ?_
    refine ev_sipush dX9_copyShape_3 ?_
    refine ev_icmp_ge (tgt := 39) dX9_copyShape_6 (by decide) (by omega) (by omega) (fun hb6 => ?_) (fun hb6 => ?_)
    · omega
    · first | refine ev_aload_n dX9_copyShape_9 rfl ?_ | refine ev_aloadX_n dX9_copyShape_9 rfl ?_
      refine ev_getR dX9_copyShape_10 fX9_20 rfl (by first | rfl | assumption) (by first | rfl | assumption) ?_
      refine ev_sipush dX9_copyShape_13 ?_
      refine ev_iload_n dX9_copyShape_16 rfl ?_
      refine ev_imul dX9_copyShape_17 ?_
      refine ev_iload_n dX9_copyShape_18 rfl ?_
      refine ev_iadd dX9_copyShape_19 ?_
      first | refine ev_aload_n dX9_copyShape_20 rfl ?_ | refine ev_aloadX_n dX9_copyShape_20 rfl ?_
      refine ev_getR dX9_copyShape_21 fX9_20 rfl (by first | rfl | assumption) (by first | rfl | assumption) ?_
      refine ev_sipush dX9_copyShape_24 ?_
      refine ev_iload_n dX9_copyShape_27 rfl ?_
      refine ev_imul dX9_copyShape_28 ?_
      refine ev_iload_n dX9_copyShape_29 rfl ?_
      refine ev_iadd dX9_copyShape_30 ?_
      refine ev_iaload dX9_copyShape_31 (by first | rfl | assumption) (by omega) (by omega) (by decide) ?_
      rw [rwc_at, e]
      refine ev_iastore dX9_copyShape_32 (by first | rfl | assumption) (by omega) (by omega) (by decide) ?_
      refine ev_iinc dX9_copyShape_33 rfl (by decide) ?_
      refine ev_goto (tgt := 2) dX9_copyShape_36 (by decide) ?_
      refine ev_to hP ⟨rfl, rfl, rfl, rfl, trivial⟩ ?_ rfl rfl rfl
      rw [upM_rw, rwc_rwc, rwc_at]
      congr 1
      exact ptS_s _ _ _ _ rfl
theorem k_isLike {k t : Nat} (hk : k ≤ 9) (ht : t ≤ 9) (M : Mm) {S T : PS} (hS : Rw (M 58) k S) (hT : Rw (M 58) t T) (iS : ∀ p, S p → inP p) (iT : ∀ p, T p → inP p) : Cm mX9_isLike [vR 54, vI (k : Int), vI (t : Int)] M (fun r M' => yn (S = T) r ∧ M' = M) := by
  refine cm_of (by decide +kernel) (fun _ => trivial) (Nat.le_of_ble_eq_true rfl) ?_
  refine ev_iconst dX9_isLike_0 ?_
  refine ev_istore_n dX9_isLike_1 (by decide) ?_
  refine ev_to (L' := [some (vR 54), some (vI (k : Int)), some (vI (t : Int)), some (vI ((0 : Nat) : Int))]) (S' := []) (M' := M) (k' := 0) (n' := 0) ?_ (by repeat (first | exact trivial | refine ⟨rfl, ?_⟩)) rfl rfl rfl rfl
  refine up_loop (P := fun i => (∀ p, 0 ≤ p → p < (i : Int) → (S p ↔ T p)) → Ev mX9_isLike 2 [some (vR 54), some (vI (k : Int)), some (vI (t : Int)), some (vI (i : Int))] [] KK M PP 0 0 _) 4913 ?_ ?_ (fun p h1 h2 => by omega)
  · intro hq
    have hST : S = T := by
      funext p
      apply propext
      constructor
      · intro h; have h2 := iS p h; exact (hq p h2.1 (by omega)).mp h
      · intro h; have h2 := iT p h; exact (hq p h2.1 (by omega)).mpr h
    refine ev_iload_n dX9_isLike_2 rfl ?_
    refine ev_sipush dX9_isLike_3 ?_
    refine ev_icmp_ge (tgt := 44) dX9_isLike_6 (by decide) (by omega) (by omega) (fun hb6 => ?_) (fun hb6 => ?_)
    · refine ev_iconst dX9_isLike_44 ?_
      exact ev_ireturn dX9_isLike_45 (okR_z rfl (by first | exact Or.inl rfl | exact Or.inr rfl | assumption)) (rz ⟨yn_1 hST, rfl⟩)
    · omega
  · intro i hi hP hq
    have hip : inP (i : Int) := by omega
    have h1 := hS.v01 hip
    have h2 := hT.v01 hip
    have h3 := hS.iff hip
    have h4 := hT.iff hip
    refine ev_iload_n dX9_isLike_2 rfl ?_
    refine ev_sipush dX9_isLike_3 ?_
    refine ev_icmp_ge (tgt := 44) dX9_isLike_6 (by decide) (by omega) (by omega) (fun hb6 => ?_) (fun hb6 => ?_)
    · omega
    · first | refine ev_aload_n dX9_isLike_9 rfl ?_ | refine ev_aloadX_n dX9_isLike_9 rfl ?_
      refine ev_getR dX9_isLike_10 fX9_20 rfl (by first | rfl | assumption) (by first | rfl | assumption) ?_
      refine ev_sipush dX9_isLike_13 ?_
      refine ev_iload_n dX9_isLike_16 rfl ?_
      refine ev_imul dX9_isLike_17 ?_
      refine ev_iload_n dX9_isLike_18 rfl ?_
      refine ev_iadd dX9_isLike_19 ?_
      refine ev_iaload dX9_isLike_20 (by first | rfl | assumption) (by omega) (by omega) (by decide) ?_
      first | refine ev_aload_n dX9_isLike_21 rfl ?_ | refine ev_aloadX_n dX9_isLike_21 rfl ?_
      refine ev_getR dX9_isLike_22 fX9_20 rfl (by first | rfl | assumption) (by first | rfl | assumption) ?_
      refine ev_sipush dX9_isLike_25 ?_
      refine ev_iload_n dX9_isLike_28 rfl ?_
      refine ev_imul dX9_isLike_29 ?_
      refine ev_iload_n dX9_isLike_30 rfl ?_
      refine ev_iadd dX9_isLike_31 ?_
      refine ev_iaload dX9_isLike_32 (by first | rfl | assumption) (by omega) (by omega) (by decide) ?_
      refine ev_icmp_eq (tgt := 38) dX9_isLike_33 (by decide) (by omega) (by omega) (fun hb33 => ?_) (fun hb33 => ?_)
      · refine ev_iinc dX9_isLike_38 rfl (by decide) ?_
        refine ev_goto (tgt := 2) dX9_isLike_41 (by decide) ?_
        refine ev_to (hP (fun p q1 q2 => ?_)) ⟨rfl, rfl, rfl, rfl, trivial⟩ rfl rfl rfl rfl
        by_cases hj : p = (i : Int)
        · subst hj; rw [← h3, ← h4, hb33]
        · exact hq p q1 (by omega)
      · refine ev_iconst dX9_isLike_36 ?_
        exact ev_ireturn dX9_isLike_37 (okR_z rfl (by first | exact Or.inl rfl | exact Or.inr rfl | assumption)) (rz ⟨yn_0 (fun z => by subst z; have := hS i hip; have := hT i hip; omega), rfl⟩)
