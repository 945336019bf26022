/-! ===== the reference: all shapes anew ===== -/
/-- the rows hold the run of the program that stands in the reference's steps -/
def mFS (M : Mm) (n : Nat) : Prop := ∃ A r, prun (mK (M 57)) (mA (M 57)) (mB (M 57)) (mZ (M 57)) n A r ∧ M 54 17 = r ∧ (0 ≤ r ∧ r ≤ 240) ∧ (∀ q, q ≤ n → Oct (A q)) ∧ ∀ q : Nat, q ≤ n → Rw (M 58) q (A q) ∧ M 63 q = crd (A q)
def FrF (M M' : Mm) : Prop := (∀ j, j ≠ 11 → j ≠ 17 → M' 54 j = M 54 j) ∧ ∀ q, q ≠ 54 → q ≠ 58 → q ≠ 60 → q ≠ 61 → q ≠ 62 → q ≠ 63 → M' q = M q
theorem FrF.rf {M : Mm} : FrF M M := ⟨fun _ _ _ => rfl, fun _ _ _ _ _ _ _ => rfl⟩
theorem FrF.sg {M M1 : Mm} (h : FrF M M1) (hs : sgA M) : sgA M1 := fun p a => by rw [h.2 59 (by decide) (by decide) (by decide) (by decide) (by decide) (by decide)]; exact hs p a
theorem FrF.p {M M1 : Mm} (h : FrF M M1) : M1 57 = M 57 := h.2 57 (by decide) (by decide) (by decide) (by decide) (by decide) (by decide)
theorem FrF.d {M M1 M2 : Mm} (h : FrF M M1) (h2 : FrD M1 M2) : FrF M M2 := ⟨fun j j1 j2 => by rw [h2.1 j j2]; exact h.1 j j1 j2, fun q q1 q2 q3 q4 q5 q6 => by rw [h2.2 q q1 q2 q3 q4 q5]; exact h.2 q q1 q2 q3 q4 q5 q6⟩
theorem FrF.tr {M M1 M2 : Mm} (h : FrF M M1) (h2 : FrF M1 M2) : FrF M M2 := ⟨fun j j1 j2 => by rw [h2.1 j j1 j2]; exact h.1 j j1 j2, fun q q1 q2 q3 q4 q5 q6 => by rw [h2.2 q q1 q2 q3 q4 q5 q6]; exact h.2 q q1 q2 q3 q4 q5 q6⟩
/-- after k steps -/
def mFk (M X : Mm) (k : Nat) : Prop := ∃ A r, prun (mK (M 57)) (mA (M 57)) (mB (M 57)) (mZ (M 57)) k A r ∧ X 54 17 = r ∧ (0 ≤ r ∧ r ≤ 40 * k) ∧ (∀ q, q ≤ k → Oct (A q)) ∧ ∀ q : Nat, q ≤ k → Rw (X 58) q (A q)
noncomputable def tdS (A : Nat → PS) (f : Int → Int) (i : Nat) : Int → Int := fun j => if 0 ≤ j ∧ j < i then crd (A j.toNat) else f j
theorem tdS_0 (A : Nat → PS) (f : Int → Int) : tdS A f 0 = f := by
  funext j
  unfold tdS
  rw [if_neg (by omega)]
abbrev fsP (M : Mm) (n : Nat) : Pz := fun r M' => r = none ∧ mFS M' n ∧ M' 54 11 = 0 ∧ FrF M M'
theorem fs_told {n : Nat} (hn : n ≤ 6) {M X : Mm} (hs : M 54 8 = n) (hk : mFk M X n) (hf : FrF M X) : Ev mX9_freshen 75 [some (vR 54), some (vI ((0 : Nat) : Int))] [] KK X PP 0 0 (Rz mX9_freshen (fsP M n)) := by
  obtain ⟨A, r, h1, h2, h3, h4, h5⟩ := hk
  have x8 : X 54 8 = n := by rw [hf.1 8 (by decide) (by decide)]; exact hs
  refine ev_to (L' := [some (vR 54), some (vI ((0 : Nat) : Int))]) (S' := []) (M' := rwc X 63 (tdS A (X 63) (0 : Nat))) (k' := 0) (n' := 0) ?_ (by repeat (first | exact trivial | refine ⟨rfl, ?_⟩)) (by show X = rwc X 63 (tdS A (X 63) 0); rw [tdS_0, rwc_self]) rfl rfl rfl
  refine up_loop (P := fun i => Ev mX9_freshen 75 [some (vR 54), some (vI (i : Int))] [] KK (rwc X 63 (tdS A (X 63) i)) PP 0 0 _) (n+1) ?_ ?_
  · have o54 : ∀ f, rwc X 63 f 54 = X 54 := fun f => rwc_ne (by decide)
    refine ev_iload_n dX9_freshen_75 rfl ?_
    first | refine ev_aload_n dX9_freshen_76 rfl ?_ | refine ev_aloadX_n dX9_freshen_76 rfl ?_
    refine ev_gI 8 dX9_freshen_77 fX9_126 rfl (by first | rfl | assumption) rfl ?_
    rw [o54, x8]
    refine ev_icmp_gt (tgt := 100) dX9_freshen_80 (by decide) (by omega) (by omega) (fun hb80 => ?_) (fun hb80 => ?_)
    · first | refine ev_aload_n dX9_freshen_100 rfl ?_ | refine ev_aloadX_n dX9_freshen_100 rfl ?_
      refine ev_iconst dX9_freshen_101 ?_
      refine ev_pZ 11 dX9_freshen_102 sX9_142 rfl (by first | exact Or.inl rfl | exact Or.inr rfl | assumption) (by first | rfl | assumption) rfl ?_
      have v1 : upM (rwc X 63 (tdS A (X 63) (n + 1))) 54 11 0 57 = M 57 := by rw [upM_o (by decide), rwc_ne (by decide)]; exact hf.p
      have v2 : upM (rwc X 63 (tdS A (X 63) (n + 1))) 54 11 0 54 17 = r := by rw [upM_n (Or.inr (by decide)), o54]; exact h2
      have v3 : upM (rwc X 63 (tdS A (X 63) (n + 1))) 54 11 0 58 = X 58 := by rw [upM_o (by decide), rwc_ne (by decide)]
      have v4 : ∀ q : Nat, q ≤ n → upM (rwc X 63 (tdS A (X 63) (n + 1))) 54 11 0 63 q = crd (A q) := fun q hq => by (rw [upM_o (by decide), rwc_at]; unfold tdS; rw [if_pos (by omega)]; rfl)
      exact ev_return dX9_freshen_105 rfl (rz ⟨rfl, ⟨A, r, by rw [v1]; exact h1, v2, by omega, h4, fun q hq => ⟨by rw [v3]; exact h5 q hq, v4 q hq⟩⟩, upM_s _ _ _ _, ⟨fun j j1 j2 => by rw [upM_n (Or.inr j1), o54]; exact hf.1 j j1 j2, fun q q1 q2 q3 q4 q5 q6 => by rw [upM_o q1, rwc_ne q6]; exact hf.2 q q1 q2 q3 q4 q5 q6⟩⟩)
    · omega
  · intro i hi hP
    have o54 : ∀ f, rwc X 63 f 54 = X 54 := fun f => rwc_ne (by decide)
    refine ev_iload_n dX9_freshen_75 rfl ?_
    first | refine ev_aload_n dX9_freshen_76 rfl ?_ | refine ev_aloadX_n dX9_freshen_76 rfl ?_
    refine ev_gI 8 dX9_freshen_77 fX9_126 rfl (by first | rfl | assumption) rfl ?_
    rw [o54, x8]
    refine ev_icmp_gt (tgt := 100) dX9_freshen_80 (by decide) (by omega) (by omega) (fun hb80 => ?_) (fun hb80 => ?_)
    · omega
    · first | refine ev_aload_n dX9_freshen_83 rfl ?_ | refine ev_aloadX_n dX9_freshen_83 rfl ?_
      refine ev_getR dX9_freshen_84 fX9_35 rfl (by first | rfl | assumption) (by first | rfl | assumption) ?_
      refine ev_iload_n dX9_freshen_87 rfl ?_
      first | refine ev_aload_n dX9_freshen_88 rfl ?_ | refine ev_aloadX_n dX9_freshen_88 rfl ?_
      refine ev_iload_n dX9_freshen_89 rfl ?_
      refine ev_callv (ci := 9) (k_pts (k := i) (S := A i) (by omega) _ (by rw [rwc_ne (by decide)]; exact h5 i (by omega))) dX9_freshen_90 tX9_pointsIn.1 kX9_185 tX9_pointsIn.2.1 tX9_pointsIn.2.2.1 rfl (by first | rfl | assumption) tX9_pointsIn.2.2.2 ⟨⟨Nat.le_of_ble_eq_true rfl, Nat.le_of_ble_eq_true rfl⟩, Nat.le_of_ble_eq_true rfl, Nat.le_of_ble_eq_true rfl⟩ rfl (Nat.le_of_ble_eq_true rfl) ?_
      rintro r K' M' P' ⟨rfl, rfl, rfl, hM'⟩
      rw [hM']
      clear hM' M'
      refine ev_iastore dX9_freshen_93 (by first | rfl | assumption) (by omega) (by omega) (by decide) ?_
      refine ev_iinc dX9_freshen_94 rfl (by decide) ?_
      refine ev_goto (tgt := 75) dX9_freshen_97 (by decide) ?_
      refine ev_to hP (by repeat (first | exact trivial | refine ⟨rfl, ?_⟩)) ?_ rfl rfl rfl
      rw [upM_rw, rwc_rwc, rwc_at]
      congr 1
      funext j
      unfold tdS up1
      by_cases hj : j = (i : Int)
      · subst hj; rw [if_pos rfl, if_pos (by omega)]; rfl
      · rw [if_neg hj]
        dsimp only
        split <;> split <;> first | omega | rfl
abbrev fsL (n : Nat) (M : Mm) (i : Nat) : Prop := ∀ X, mFk M X i → FrF M X → Ev mX9_freshen 37 [some (vR 54), some (vI (i : Int))] [] KK X PP 0 0 (Rz mX9_freshen (fsP M n))
theorem fs_s1 {n i : Nat} {M X Y : Mm} (hi : i < n) (hf : FrF M X) {A : Nat → PS} {r : Int} (h1 : prun (mK (M 57)) (mA (M 57)) (mB (M 57)) (mZ (M 57)) i A r) (h2 : X 54 17 = r) (h3 : 0 ≤ r ∧ r ≤ 40 * i) (h4 : ∀ q, q ≤ i → Oct (A q)) (h5 : ∀ q : Nat, q ≤ i → Rw (X 58) q (A q)) (x57 : X 57 = M 57) (hq : mK (M 57) i ≠ 4) (hst : stOK (mK (M 57) i) (mA (M 57) i) (mB (M 57) i) (mZ (M 57) i)) (g1 : Y = rwc X 58 (setS (X 58) (i + 1) (stepS (mK (X 57) i) (mA (X 57) i) (mB (X 57) i) (mZ (X 57) i) (A i)))) (hP : fsL n M (i + 1)) : Ev mX9_freshen 37 [some (vR 54), some (vI ((i + 1 : Nat) : Int))] [] KK Y PP 0 0 (Rz mX9_freshen (fsP M n)) := by
  rw [x57] at g1
  refine hP Y ⟨fun q => if q = i + 1 then stepS (mK (M 57) i) (mA (M 57) i) (mB (M 57) i) (mZ (M 57) i) (A i) else A q, r, ⟨A, r, h1, Or.inl ⟨hq, rfl, fun q _ => rfl⟩⟩, ?_, by omega, fun q hq2 => ?_, fun q hq2 => ?_⟩ ?_
  · rw [g1, rwc_ne (by decide)]; exact h2
  · show Oct (if q = i + 1 then _ else _)
    by_cases hc : q = i + 1
    · rw [if_pos hc]; exact oct_step (h4 i (Nat.le_refl i)) hst
    · rw [if_neg hc]; exact h4 q (by omega)
  · show Rw (Y 58) q (if q = i + 1 then _ else _)
    rw [g1, rwc_at]
    by_cases hc : q = i + 1
    · rw [if_pos hc, hc]; exact setS_at _ _ _
    · rw [if_neg hc]
      exact setS_ne (h5 q (by omega)) hc
  · exact hf.d (FrD.c (M1 := X) ⟨fun _ _ => rfl, fun _ _ _ _ _ _ => rfl⟩ (fun q q1 _ _ _ => by rw [g1, rwc_ne q1]))
theorem fs_s2 {n i t N : Nat} {M X Y : Mm} (hi : i < n) (hf : FrF M X) {A : Nat → PS} {r : Int} (h1 : prun (mK (M 57)) (mA (M 57)) (mB (M 57)) (mZ (M 57)) i A r) (h2 : X 54 17 = r) (h3 : 0 ≤ r ∧ r ≤ 40 * i) (h4 : ∀ q, q ≤ i → Oct (A q)) (h5 : ∀ q : Nat, q ≤ i → Rw (X 58) q (A q)) (hq : mK (M 57) i = 4) (ht : t < i) (ha : mA (M 57) i = t) (hb : ∀ j : Nat, t ≤ j → j < i → stOK (mK (M 57) j) (mA (M 57) j) (mB (M 57) j) (mZ (M 57) j)) (hN1 : N ≤ 40) (hN : LoopN (A t) (bdy (mK (M 57)) (mA (M 57)) (mB (M 57)) (mZ (M 57)) t i) N) (oJ : Oct (joinS (A t) (bdy (mK (M 57)) (mA (M 57)) (mB (M 57)) (mZ (M 57)) t i (itT (A t) (bdy (mK (M 57)) (mA (M 57)) (mB (M 57)) (mZ (M 57)) t i) N)))) (g1 : Y 54 17 = X 54 17 + N) (g2 : ∀ j, j ≤ i - t → Rw (Y 58) (t + j) (plc (mK (M 57)) (mA (M 57)) (mB (M 57)) (mZ (M 57)) (joinS (A t) (bdy (mK (M 57)) (mA (M 57)) (mB (M 57)) (mZ (M 57)) t i (itT (A t) (bdy (mK (M 57)) (mA (M 57)) (mB (M 57)) (mZ (M 57)) t i) N))) t j)) (g3 : Rw (Y 58) (i + 1) (joinS (A t) (bdy (mK (M 57)) (mA (M 57)) (mB (M 57)) (mZ (M 57)) t i (itT (A t) (bdy (mK (M 57)) (mA (M 57)) (mB (M 57)) (mZ (M 57)) t i) N)))) (g4 : ∀ q W, q < t → Rw (X 58) q W → Rw (Y 58) q W) (g5 : FrD X Y) (hP : fsL n M (i + 1)) : Ev mX9_freshen 37 [some (vR 54), some (vI ((i + 1 : Nat) : Int))] [] KK Y PP 0 0 (Rz mX9_freshen (fsP M n)) := by
  refine hP Y ⟨_, r + N, ⟨A, r, h1, Or.inr ⟨hq, t, N, ht, ha, hN, rfl, fun q _ => rfl⟩⟩, by rw [g1, h2], by omega, fun q hq2 => ?_, fun q hq2 => ?_⟩ (hf.d g5)
  · show Oct (if q = i + 1 then _ else if t ≤ q then _ else _)
    by_cases hc : q = i + 1
    · rw [if_pos hc]; exact oJ
    · rw [if_neg hc]
      by_cases hc2 : t ≤ q
      · rw [if_pos hc2]
        exact oct_plc (i := i) oJ hb (q - t) (by omega)
      · rw [if_neg hc2]; exact h4 q (by omega)
  · show Rw (Y 58) q (if q = i + 1 then _ else if t ≤ q then _ else _)
    by_cases hc : q = i + 1
    · rw [if_pos hc, hc]; exact g3
    · rw [if_neg hc]
      by_cases hc2 : t ≤ q
      · rw [if_pos hc2]
        have := g2 (q - t) (by omega)
        rw [Nat.add_sub_of_le hc2] at this
        exact this
      · rw [if_neg hc2]
        exact g4 q _ (by omega) (h5 q (by omega))
theorem fs_steps {n : Nat} (hn : n ≤ 6) {M X : Mm} (hs : M 54 8 = n) (hsg : sgA M) (hp : prOK (mK (M 57)) (mA (M 57)) (mB (M 57)) (mZ (M 57)) n) (hk : mFk M X 0) (hf : FrF M X) : Ev mX9_freshen 37 [some (vR 54), some (vI ((0 : Nat) : Int))] [] KK X PP 0 0 (Rz mX9_freshen (fsP M n)) := by
  have lp : ∀ X, mFk M X 0 → FrF M X → Ev mX9_freshen 37 [some (vR 54), some (vI ((0 : Nat) : Int))] [] KK X PP 0 0 (Rz mX9_freshen (fsP M n)) := by
    refine up_loop (P := fun i => ∀ X, mFk M X i → FrF M X → Ev mX9_freshen 37 [some (vR 54), some (vI (i : Int))] [] KK X PP 0 0 (Rz mX9_freshen (fsP M n))) n ?_ ?_
    · intro X hk hf
      have x8 : X 54 8 = n := by rw [hf.1 8 (by decide) (by decide)]; exact hs
      have hfin := fs_told hn hs hk hf
      refine ev_iload_n dX9_freshen_37 rfl ?_
      first | refine ev_aload_n dX9_freshen_38 rfl ?_ | refine ev_aloadX_n dX9_freshen_38 rfl ?_
      refine ev_gI 8 dX9_freshen_39 fX9_126 rfl (by first | rfl | assumption) rfl ?_
      rw [x8]
      refine ev_icmp_ge (tgt := 73) dX9_freshen_42 (by decide) (by omega) (by omega) (fun hb42 => ?_) (fun hb42 => ?_)
      · refine ev_iconst dX9_freshen_73 ?_
        refine ev_istore_n dX9_freshen_74 (by decide) ?_
        exact ev_to hfin (by repeat (first | exact trivial | refine ⟨rfl, ?_⟩)) rfl rfl rfl rfl
      · omega
    · rintro i hi hP X ⟨A, r, h1, h2, h3, h4, h5⟩ hf
      have x8 : X 54 8 = n := by rw [hf.1 8 (by decide) (by decide)]; exact hs
      have x57 := hf.p
      have e1 : X 57 (4 * (i : Int)) = mK (M 57) i := by rw [x57]; rfl
      have hki : inR (mK (M 57) i) := by
        rcases hp i hi with h | h
        · exact (stOK_n4 h).2
        · have := h.1; omega
      refine ev_iload_n dX9_freshen_37 rfl ?_
      first | refine ev_aload_n dX9_freshen_38 rfl ?_ | refine ev_aloadX_n dX9_freshen_38 rfl ?_
      refine ev_gI 8 dX9_freshen_39 fX9_126 rfl (by first | rfl | assumption) rfl ?_
      rw [x8]
      refine ev_icmp_ge (tgt := 73) dX9_freshen_42 (by decide) (by omega) (by omega) (fun hb42 => ?_) (fun hb42 => ?_)
      · omega
      · first | refine ev_aload_n dX9_freshen_45 rfl ?_ | refine ev_aloadX_n dX9_freshen_45 rfl ?_
        refine ev_iload_n dX9_freshen_46 rfl ?_
        refine ev_callv (ci := 9) (k_kind (by omega) (by omega) X) dX9_freshen_47 tX9_kind.1 kX9_146 tX9_kind.2.1 tX9_kind.2.2.1 rfl (by first | rfl | assumption) tX9_kind.2.2.2 ⟨⟨Nat.le_of_ble_eq_true rfl, Nat.le_of_ble_eq_true rfl⟩, Nat.le_of_ble_eq_true rfl, Nat.le_of_ble_eq_true rfl⟩ rfl (Nat.le_of_ble_eq_true rfl) ?_
        rintro r K' M' P' ⟨rfl, rfl, rfl, hM'⟩
        rw [hM']
        clear hM' M'
        rw [e1]
        refine ev_iconst dX9_freshen_50 ?_
        refine ev_icmp_ne (tgt := 62) dX9_freshen_51 (by decide) (by omega) (by omega) (fun hb51 => ?_) (fun hb51 => ?_)
        · have hst : stOK (mK (M 57) i) (mA (M 57) i) (mB (M 57) i) (mZ (M 57) i) := by rcases hp i hi with h | h; exact h; exact absurd h.1 hb51
          first | refine ev_aload_n dX9_freshen_62 rfl ?_ | refine ev_aloadX_n dX9_freshen_62 rfl ?_
          refine ev_iload_n dX9_freshen_63 rfl ?_
          refine ev_callv (ci := 9) (k_doStep (k := i) (by omega) X (hf.sg hsg) (by rw [x57]; exact hst) (h5 i (by omega)) (oct_in (h4 i (by omega)))) dX9_freshen_64 tX9_doStep.1 kX9_198 tX9_doStep.2.1 tX9_doStep.2.2.1 rfl (by first | rfl | assumption) tX9_doStep.2.2.2 ⟨⟨Nat.le_of_ble_eq_true rfl, Nat.le_of_ble_eq_true rfl⟩, Nat.le_of_ble_eq_true rfl, Nat.le_of_ble_eq_true rfl⟩ rfl (Nat.le_of_ble_eq_true rfl) ?_
          rintro w K' Y P' ⟨rfl, rfl, rfl, g1⟩
          refine ev_iinc dX9_freshen_67 rfl (by decide) ?_
          refine ev_goto (tgt := 37) dX9_freshen_70 (by decide) ?_
          first | exact ev_to (fs_s1 hi hf h1 h2 h3 h4 h5 x57 hb51 hst g1 hP) (by repeat (first | exact trivial | refine ⟨rfl, ?_⟩)) rfl rfl rfl rfl | exact ev_to (fs_s2 hi hf h1 h2 h3 h4 h5 hb51 ht ha hb hN1 hN oJ g1 g2 g3 g4 g5 hP) (by repeat (first | exact trivial | refine ⟨rfl, ?_⟩)) rfl rfl rfl rfl
        · obtain ⟨t, ht, ha, hb⟩ : ∃ t : Nat, t < i ∧ mA (M 57) i = t ∧ ∀ j : Nat, t ≤ j → j < i → stOK (mK (M 57) j) (mA (M 57) j) (mB (M 57) j) (mZ (M 57) j) := by rcases hp i hi with h | h; exact absurd hb51 (stOK_n4 h).1; exact h.2
          have oT := h4 t (by omega)
          have hbo := oct_bdy (kf := mK (M 57)) (af := mA (M 57)) (bf := mB (M 57)) (zf := mZ (M 57)) (Nat.le_of_lt ht) hb
          obtain ⟨N, hN1, hN⟩ := loop_ends oT hbo
          first | refine ev_aload_n dX9_freshen_54 rfl ?_ | refine ev_aloadX_n dX9_freshen_54 rfl ?_
          refine ev_iload_n dX9_freshen_55 rfl ?_
          refine ev_callv (ci := 9) (k_doLoop (t := t) (i := i) (N := N) ht (by omega) X (hf.sg hsg) (h5 t (by omega)) oT (by rw [x57]; exact ha) (by rw [x57]; exact hb) (by rw [x57]) hN (by omega)) dX9_freshen_56 tX9_doLoop.1 kX9_219 tX9_doLoop.2.1 tX9_doLoop.2.2.1 rfl (by first | rfl | assumption) tX9_doLoop.2.2.2 ⟨⟨Nat.le_of_ble_eq_true rfl, Nat.le_of_ble_eq_true rfl⟩, Nat.le_of_ble_eq_true rfl, Nat.le_of_ble_eq_true rfl⟩ rfl (Nat.le_of_ble_eq_true rfl) ?_
          rintro w K' Y P' ⟨rfl, rfl, rfl, g1, g2, g3, g4, g5⟩
          rw [x57] at g2
          have oJ := oct_join oT (hbo _ (it_ok oT hbo N (fun j hj => hN.2 j hj)).1)
          refine ev_goto (tgt := 67) dX9_freshen_59 (by decide) ?_
          refine ev_iinc dX9_freshen_67 rfl (by decide) ?_
          refine ev_goto (tgt := 37) dX9_freshen_70 (by decide) ?_
          first | exact ev_to (fs_s1 hi hf h1 h2 h3 h4 h5 x57 hb51 hst g1 hP) (by repeat (first | exact trivial | refine ⟨rfl, ?_⟩)) rfl rfl rfl rfl | exact ev_to (fs_s2 hi hf h1 h2 h3 h4 h5 hb51 ht ha hb hN1 hN oJ g1 g2 g3 g4 g5 hP) (by repeat (first | exact trivial | refine ⟨rfl, ?_⟩)) rfl rfl rfl rfl
  exact lp X hk hf
theorem k_freshen {n : Nat} (hn : n ≤ 6) (M : Mm) (hs : M 54 8 = n) (hsg : sgA M) (hp : prOK (mK (M 57)) (mA (M 57)) (mB (M 57)) (mZ (M 57)) n) (ho : M 54 11 = 0 ∨ M 54 11 = 1) (hfr : M 54 11 = 0 → mFS M n) : Cm mX9_freshen [vR 54] M (fsP M n) := by
  have lp : Ev mX9_freshen 15 [some (vR 54), some (vI ((0 : Nat) : Int))] [] KK (upM M 54 17 0) PP 0 0 (Rz mX9_freshen (fsP M n)) := by
    have y2 : upM M 54 17 0 54 17 = 0 := upM_s _ _ _ _
    have yf : FrF M (upM M 54 17 0) := ⟨fun j j1 j2 => upM_n (Or.inr j2), fun q q1 _ _ _ _ _ => upM_o q1⟩
    generalize upM M 54 17 0 = X at y2 yf ⊢
    refine ev_to (L' := [some (vR 54), some (vI ((0 : Nat) : Int))]) (S' := []) (M' := rwc X 58 (fillS 1 (X 58) (0 : Nat))) (k' := 0) (n' := 0) ?_ (by repeat (first | exact trivial | refine ⟨rfl, ?_⟩)) (by show X = rwc X 58 (fillS 1 (X 58) 0); rw [fillS_0, rwc_self]) rfl rfl rfl
    refine up_loop (P := fun i => Ev mX9_freshen 15 [some (vR 54), some (vI (i : Int))] [] KK (rwc X 58 (fillS 1 (X 58) i)) PP 0 0 _) 4913 ?_ ?_
    · have hk : mFk M (rwc X 58 (fillS 1 (X 58) 4913)) 0 := by
        refine ⟨fun _ p => inP p, 0, ⟨rfl, rfl⟩, by rw [rwc_ne (by decide)]; exact y2, by omega, fun q _ => Or.inr ⟨fullF, full_ok⟩, fun q hq p hp => ?_⟩
        have e0 : q = 0 := by omega
        subst e0
        rw [rwc_at, ind_1 hp]
        unfold fillS
        rw [if_pos (by omega)]
      have hfin := fs_steps hn hs hsg hp hk (yf.d (FrD.c (M1 := X) ⟨fun _ _ => rfl, fun _ _ _ _ _ _ => rfl⟩ (fun q q1 _ _ _ => rwc_ne q1)))
      refine ev_iload_n dX9_freshen_15 rfl ?_
      refine ev_sipush dX9_freshen_16 ?_
      refine ev_icmp_ge (tgt := 35) dX9_freshen_19 (by decide) (by omega) (by omega) (fun hb19 => ?_) (fun hb19 => ?_)
      · refine ev_iconst dX9_freshen_35 ?_
        refine ev_istore_n dX9_freshen_36 (by decide) ?_
        exact ev_to hfin (by repeat (first | exact trivial | refine ⟨rfl, ?_⟩)) rfl rfl rfl rfl
      · omega
    · intro i hi hP
      refine ev_iload_n dX9_freshen_15 rfl ?_
      refine ev_sipush dX9_freshen_16 ?_
      refine ev_icmp_ge (tgt := 35) dX9_freshen_19 (by decide) (by omega) (by omega) (fun hb19 => ?_) (fun hb19 => ?_)
      · omega
      · first | refine ev_aload_n dX9_freshen_22 rfl ?_ | refine ev_aloadX_n dX9_freshen_22 rfl ?_
        refine ev_getR dX9_freshen_23 fX9_20 rfl (by first | rfl | assumption) (by first | rfl | assumption) ?_
        refine ev_iload_n dX9_freshen_26 rfl ?_
        refine ev_iconst dX9_freshen_27 ?_
        refine ev_iastore dX9_freshen_28 (by first | rfl | assumption) (by omega) (by omega) (by decide) ?_
        refine ev_iinc dX9_freshen_29 rfl (by decide) ?_
        refine ev_goto (tgt := 15) dX9_freshen_32 (by decide) ?_
        refine ev_to hP (by repeat (first | exact trivial | refine ⟨rfl, ?_⟩)) ?_ rfl rfl rfl
        rw [upM_rw, rwc_rwc, rwc_at]
        congr 1
        funext j
        unfold fillS up1
        by_cases hj : j = (i : Int)
        · rw [if_pos hj, if_pos (by omega)]
        · rw [if_neg hj]
          dsimp only
          split <;> split <;> first | rfl | omega
  refine cm_of (by decide +kernel) (fun _ => trivial) (Nat.le_of_ble_eq_true rfl) ?_
  first | refine ev_aload_n dX9_freshen_0 rfl ?_ | refine ev_aloadX_n dX9_freshen_0 rfl ?_
  refine ev_gI 11 dX9_freshen_1 fX9_142 rfl (by first | rfl | assumption) rfl ?_
  refine ev_if_ne (tgt := 8) dX9_freshen_4 (by decide) (by omega) (fun hb4 => ?_) (fun hb4 => ?_)
  · first | refine ev_aload_n dX9_freshen_8 rfl ?_ | refine ev_aloadX_n dX9_freshen_8 rfl ?_
    refine ev_iconst dX9_freshen_9 ?_
    refine ev_pI 17 dX9_freshen_10 sX9_212 rfl (by first | rfl | assumption) rfl ?_
    refine ev_iconst dX9_freshen_13 ?_
    refine ev_istore_n dX9_freshen_14 (by decide) ?_
    exact ev_to lp (by repeat (first | exact trivial | refine ⟨rfl, ?_⟩)) rfl rfl rfl rfl
  · exact ev_return dX9_freshen_7 rfl (rz ⟨rfl, hfr hb4, hb4, FrF.rf⟩)
