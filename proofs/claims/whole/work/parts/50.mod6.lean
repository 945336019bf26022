/-! ===== the reference: a loop ===== -/
theorem upM_o {M : Mm} {c q : Nat} {i z : Int} (h : q ≠ c) : upM M c i z q = M q := by rw [upM_rw, rwc_ne h]
theorem byB_cg {f g : Int → Int} (h : ∀ j, 0 ≤ j → j < 36 → f j = g j) : byB f = byB g := by
  funext p
  apply propext
  constructor
  · rintro ⟨h1, h2⟩
    exact ⟨h1, fun a b ha hb => by have := h2 a b ha hb; simp only [mt] at this ⊢; rw [← h _ (by omega) (by omega)]; exact this⟩
  · rintro ⟨h1, h2⟩
    exact ⟨h1, fun a b ha hb => by have := h2 a b ha hb; simp only [mt] at this ⊢; rw [h _ (by omega) (by omega)]; exact this⟩
theorem sym_cg {f g : Int → Int} (h : ∀ j, 0 ≤ j → j < 36 → f j = g j) (hg : Sym g) : Sym f := by
  intro a b ha hb
  have := hg a b ha hb
  simp only [mt] at this ⊢
  rw [h _ (by omega) (by omega), h _ (by omega) (by omega)]
  exact this
theorem wdF_cg {E : Prop} {f g : Int → Int} {N : PS} {j : Int} (h : f j = g j) : wdF E f N j = wdF E g N j := by
  unfold wdF
  rw [h]
theorem itR_bd (F : PS) (bd : PS → PS) : ∀ (m : Nat) (j : Int), -99 ≤ (itR F bd m).2.1 j ∧ (itR F bd m).2.1 j ≤ 16 := by
  intro m
  induction m with
  | zero => intro j; exact bnF_bd F j
  | succ m ih =>
    intro j
    have h1 := ih j
    have h2 := bnF_bd (itN F bd m) j
    show -99 ≤ wdF (itR F bd m).1 (itR F bd m).2.1 (itN F bd m) j ∧ wdF (itR F bd m).1 (itR F bd m).2.1 (itN F bd m) j ≤ 16
    by_cases hE : (itR F bd m).1
    · rw [wdF_1 hE]; exact h2
    · rw [wdF_0 hE]; split <;> omega
/-- what a loop leaves -/
def FrD (M M' : Mm) : Prop := (∀ j, j ≠ 17 → M' 54 j = M 54 j) ∧ ∀ q, q ≠ 54 → q ≠ 58 → q ≠ 60 → q ≠ 61 → q ≠ 62 → M' q = M q
theorem FrD.c {M M1 M2 : Mm} (h : FrD M M1) (h2 : ∀ q, q ≠ 58 → q ≠ 60 → q ≠ 61 → q ≠ 62 → M2 q = M1 q) : FrD M M2 := ⟨fun j hj => by rw [h2 54 (by decide) (by decide) (by decide) (by decide)]; exact h.1 j hj, fun q q1 q2 q3 q4 q5 => by rw [h2 q q2 q3 q4 q5]; exact h.2 q q1 q2 q3 q4 q5⟩
theorem FrD.sg {M M1 : Mm} (h : FrD M M1) (hs : sgA M) : sgA M1 := fun p a => by rw [h.2 59 (by decide) (by decide) (by decide) (by decide) (by decide)]; exact hs p a
theorem FrD.p {M M1 : Mm} (h : FrD M M1) : M1 57 = M 57 := h.2 57 (by decide) (by decide) (by decide) (by decide) (by decide)
def LI (M : Mm) (X : Mm) (t i : Nat) (F : PS) (bd : PS → PS) (m : Nat) : Prop := (Rw (X 58) t (itT F bd m)) ∧ (Rw (X 58) i (bd (itT F bd m))) ∧ (Rw (X 58) 8 (itN F bd m)) ∧ (Rw (X 58) 7 F) ∧ (∀ j, 0 ≤ j → j < 36 → X 62 j = (itR F bd m).2.1 j) ∧ (X 54 17 = M 54 17 + m) ∧ (∀ q W, q < t → Rw (M 58) q W → Rw (X 58) q W) ∧ (FrD M X)
theorem LI.rt {M : Mm} {X : Mm} {t i : Nat} {F : PS} {bd : PS → PS} {m : Nat} (h : LI M X t i F bd m) : Rw (X 58) t (itT F bd m) := h.1
theorem LI.ri {M : Mm} {X : Mm} {t i : Nat} {F : PS} {bd : PS → PS} {m : Nat} (h : LI M X t i F bd m) : Rw (X 58) i (bd (itT F bd m)) := h.2.1
theorem LI.r8 {M : Mm} {X : Mm} {t i : Nat} {F : PS} {bd : PS → PS} {m : Nat} (h : LI M X t i F bd m) : Rw (X 58) 8 (itN F bd m) := h.2.2.1
theorem LI.r7 {M : Mm} {X : Mm} {t i : Nat} {F : PS} {bd : PS → PS} {m : Nat} (h : LI M X t i F bd m) : Rw (X 58) 7 F := h.2.2.2.1
theorem LI.rv {M : Mm} {X : Mm} {t i : Nat} {F : PS} {bd : PS → PS} {m : Nat} (h : LI M X t i F bd m) : ∀ j, 0 ≤ j → j < 36 → X 62 j = (itR F bd m).2.1 j := h.2.2.2.2.1
theorem LI.rd {M : Mm} {X : Mm} {t i : Nat} {F : PS} {bd : PS → PS} {m : Nat} (h : LI M X t i F bd m) : X 54 17 = M 54 17 + m := h.2.2.2.2.2.1
theorem LI.lo {M : Mm} {X : Mm} {t i : Nat} {F : PS} {bd : PS → PS} {m : Nat} (h : LI M X t i F bd m) : ∀ q W, q < t → Rw (M 58) q W → Rw (X 58) q W := h.2.2.2.2.2.2.1
theorem LI.fr {M : Mm} {X : Mm} {t i : Nat} {F : PS} {bd : PS → PS} {m : Nat} (h : LI M X t i F bd m) : FrD M X := h.2.2.2.2.2.2.2
theorem LI.mk {M : Mm} {X : Mm} {t i : Nat} {F : PS} {bd : PS → PS} {m : Nat} (rt : Rw (X 58) t (itT F bd m)) (ri : Rw (X 58) i (bd (itT F bd m))) (r8 : Rw (X 58) 8 (itN F bd m)) (r7 : Rw (X 58) 7 F) (rv : ∀ j, 0 ≤ j → j < 36 → X 62 j = (itR F bd m).2.1 j) (rd : X 54 17 = M 54 17 + m) (lo : ∀ q W, q < t → Rw (M 58) q W → Rw (X 58) q W) (fr : FrD M X) : LI M X t i F bd m := ⟨rt, ri, r8, r7, rv, rd, lo, fr⟩
abbrev dlP (M : Mm) (t i : Nat) (F : PS) (bd : PS → PS) (N : Nat) : Pz := fun r M' => r = none ∧ M' 54 17 = M 54 17 + N ∧ (∀ j, j ≤ i - t → Rw (M' 58) (t + j) (plc (mK (M 57)) (mA (M 57)) (mB (M 57)) (mZ (M 57)) (joinS F (bd (itT F bd N))) t j)) ∧ Rw (M' 58) (i + 1) (joinS F (bd (itT F bd N))) ∧ (∀ q W, q < t → Rw (M 58) q W → Rw (M' 58) q W) ∧ FrD M M'
theorem dl_end {t i N : Nat} (hti : t < i) (hi : i < 6) {M : Mm} (hs : sgA M) {F : PS} {bd : PS → PS} (oF : Oct F) (oB : Oct (bd (itT F bd N))) (hst : ∀ j : Nat, t ≤ j → j < i → mOK (M 57) j) {X : Mm} (hI : LI M X t i F bd N) {u : Option V} : Ev mX9_doLoop 105 [some (vR 54), some (vI (i : Int)), some (vI (t : Int)), u] [] KK X PP 0 0 (Rz mX9_doLoop (dlP M t i F bd N)) := by
  have oJ := oct_join oF oB
  have s0 := hI.fr.sg hs
  first | refine ev_aload_n dX9_doLoop_105 rfl ?_ | refine ev_aloadX_n dX9_doLoop_105 rfl ?_
  refine ev_bipush dX9_doLoop_106 ?_
  refine ev_iload_n dX9_doLoop_108 rfl ?_
  refine ev_bipush dX9_doLoop_109 ?_
  refine ev_callv (ci := 9) (k_join (a := 7) (b := i) (t := 8) (by omega) (by omega) (by omega) (by omega) (by omega) X s0 hI.r7 hI.ri oF oB) dX9_doLoop_111 tX9_join.1 kX9_205 tX9_join.2.1 tX9_join.2.2.1 rfl (by first | rfl | assumption) tX9_join.2.2.2 ⟨⟨Nat.le_of_ble_eq_true rfl, Nat.le_of_ble_eq_true rfl⟩, Nat.le_of_ble_eq_true rfl, Nat.le_of_ble_eq_true rfl⟩ rfl (Nat.le_of_ble_eq_true rfl) ?_
  rintro r K' X1 P' ⟨rfl, rfl, rfl, j1, j2⟩
  have f1 : FrD M X1 := hI.fr.c (fun q q1 q2 q3 _ => j2 q q1 q2 q3)
  have r8 : Rw (X1 58) 8 (joinS F (bd (itT F bd N))) := by rw [j1]; exact setS_at _ _ _
  have d1 : X1 54 17 = M 54 17 + N := by rw [j2 54 (by decide) (by decide) (by decide)]; exact hI.rd
  have l1 : ∀ q W, q < t → Rw (M 58) q W → Rw (X1 58) q W := fun q W hq h => by rw [j1]; exact setS_ne (hI.lo q W hq h) (by omega)
  first | refine ev_aload_n dX9_doLoop_114 rfl ?_ | refine ev_aloadX_n dX9_doLoop_114 rfl ?_
  refine ev_bipush dX9_doLoop_115 ?_
  refine ev_iload_n dX9_doLoop_117 rfl ?_
  refine ev_callv (ci := 9) (k_copyShape (k := 8) (t := t) (by omega) (by omega) (by omega) X1 r8) dX9_doLoop_118 tX9_copyShape.1 kX9_188 tX9_copyShape.2.1 tX9_copyShape.2.2.1 rfl (by first | rfl | assumption) tX9_copyShape.2.2.2 ⟨⟨Nat.le_of_ble_eq_true rfl, Nat.le_of_ble_eq_true rfl⟩, Nat.le_of_ble_eq_true rfl, Nat.le_of_ble_eq_true rfl⟩ rfl (Nat.le_of_ble_eq_true rfl) ?_
  rintro r K' X2 P' ⟨rfl, rfl, rfl, c1⟩
  have f2 : FrD M X2 := f1.c (fun q q1 q2 q3 _ => by rw [c1, rwc_ne q1])
  have rt : Rw (X2 58) t (joinS F (bd (itT F bd N))) := by rw [c1, rwc_at]; exact setS_at _ _ _
  have d2 : X2 54 17 = M 54 17 + N := by rw [c1, rwc_ne (by decide)]; exact d1
  have l2 : ∀ q W, q < t → Rw (M 58) q W → Rw (X2 58) q W := fun q W hq h => by rw [c1, rwc_at]; exact setS_ne (l1 q W hq h) (by omega)
  first | refine ev_aload_n dX9_doLoop_121 rfl ?_ | refine ev_aloadX_n dX9_doLoop_121 rfl ?_
  refine ev_iload_n dX9_doLoop_122 rfl ?_
  refine ev_iload_n dX9_doLoop_123 rfl ?_
  refine ev_callv (ci := 9) (k_doAll (t := t) (i := i) (by omega) (by omega) X2 (f2.sg hs) rt oJ (by rw [f2.p]; exact hst)) dX9_doLoop_124 tX9_doAll.1 kX9_202 tX9_doAll.2.1 tX9_doAll.2.2.1 rfl (by first | rfl | assumption) tX9_doAll.2.2.2 ⟨⟨Nat.le_of_ble_eq_true rfl, Nat.le_of_ble_eq_true rfl⟩, Nat.le_of_ble_eq_true rfl, Nat.le_of_ble_eq_true rfl⟩ rfl (Nat.le_of_ble_eq_true rfl) ?_
  rintro r K' X3 P' ⟨rfl, rfl, rfl, f, a1, a2, a3⟩
  rw [f2.p] at a2
  have f3 : FrD M X3 := f2.c (fun q q1 q2 q3 _ => by rw [a1, rwc_ne q1])
  have e3 : X3 58 = f := by rw [a1, rwc_at]
  have rt3 : Rw (X3 58) t (joinS F (bd (itT F bd N))) := by rw [e3]; exact a2 0 (by omega)
  first | refine ev_aload_n dX9_doLoop_127 rfl ?_ | refine ev_aloadX_n dX9_doLoop_127 rfl ?_
  refine ev_iload_n dX9_doLoop_128 rfl ?_
  refine ev_iload_n dX9_doLoop_129 rfl ?_
  refine ev_iconst dX9_doLoop_130 ?_
  refine ev_iadd dX9_doLoop_131 ?_
  refine ev_callv (ci := 9) (k_copyShape (k := t) (t := i + 1) (by omega) (by omega) (by omega) X3 rt3) dX9_doLoop_132 tX9_copyShape.1 kX9_188 tX9_copyShape.2.1 tX9_copyShape.2.2.1 rfl (by first | rfl | assumption) tX9_copyShape.2.2.2 ⟨⟨Nat.le_of_ble_eq_true rfl, Nat.le_of_ble_eq_true rfl⟩, Nat.le_of_ble_eq_true rfl, Nat.le_of_ble_eq_true rfl⟩ rfl (Nat.le_of_ble_eq_true rfl) ?_
  rintro r K' X4 P' ⟨rfl, rfl, rfl, c4⟩
  have f4 : FrD M X4 := f3.c (fun q q1 q2 q3 _ => by rw [c4, rwc_ne q1])
  have e4 : X4 58 = setS f (i + 1) (joinS F (bd (itT F bd N))) := by rw [c4, rwc_at, e3]
  exact ev_return dX9_doLoop_135 rfl (rz ⟨rfl, by rw [c4, rwc_ne (by decide), a1, rwc_ne (by decide)]; exact d2, fun j hj => by rw [e4]; exact setS_ne (a2 j hj) (by omega), by rw [e4]; exact setS_at _ _ _, fun q W hq h => by rw [e4]; exact setS_ne (a3 q W (by omega) (l2 q W hq h)) (by omega), f4⟩)
theorem dl_round {t i : Nat} (hti : t < i) (hi : i < 6) {M : Mm} (hs : sgA M) {F : PS} (oF : Oct F) (hst : ∀ j : Nat, t ≤ j → j < i → mOK (M 57) j) {bd : PS → PS} (hbd : bdy (mK (M 57)) (mA (M 57)) (mB (M 57)) (mZ (M 57)) t i = bd) (hbo : ∀ T, Oct T → Oct (bd T)) {m : Nat} (hm : ∀ j, j ≤ m → ¬ cvg F bd j) (h17 : 0 ≤ M 54 17 ∧ M 54 17 ≤ 100000) (hm2 : m ≤ 100) {X : Mm} (hI : LI M X t i F bd m) {e : Int} (he : e = 0 ∨ e = 1) (hE : e = 1 ↔ (itR F bd m).1) {Φ : Pz} (hP : ∀ Y, LI M Y t i F bd (m + 1) → Ev mX9_doLoop 52 [some (vR 54), some (vI (i : Int)), some (vI (t : Int)), some (vI 0)] [] KK Y PP 0 0 (Rz mX9_doLoop Φ)) : Ev mX9_doLoop 62 [some (vR 54), some (vI (i : Int)), some (vI (t : Int)), some (vI e)] [] KK X PP 0 0 (Rz mX9_doLoop Φ) := by
  obtain ⟨o1, ok1, -⟩ := it_ok oF hbo (m + 1) (fun j hj => hm j (by omega))
  obtain ⟨eT, rk⟩ := ok1 (fun z => z)
  have oB := hbo _ o1
  first | refine ev_aload_n dX9_doLoop_62 rfl ?_ | refine ev_aloadX_n dX9_doLoop_62 rfl ?_
  refine ev_dup dX9_doLoop_63 ?_
  refine ev_gI 17 dX9_doLoop_64 fX9_212 rfl (by first | rfl | assumption) rfl ?_
  refine ev_iconst dX9_doLoop_67 ?_
  refine ev_iadd dX9_doLoop_68 ?_
  refine ev_pI 17 dX9_doLoop_69 sX9_212 rfl (by first | rfl | assumption) rfl ?_
  have y1 : ∀ q, q ≠ 54 → upM X 54 17 (X 54 17 + 1) q = X q := fun q hq => upM_o hq
  have y2 : upM X 54 17 (X 54 17 + 1) 54 17 = X 54 17 + 1 := upM_s _ _ _ _
  have y3 : ∀ j, j ≠ 17 → upM X 54 17 (X 54 17 + 1) 54 j = X 54 j := fun j hj => upM_n (Or.inr hj)
  generalize upM X 54 17 (X 54 17 + 1) = X1 at y1 y2 y3 ⊢
  have f1 : FrD M X1 := ⟨fun j hj => by rw [y3 j hj]; exact hI.fr.1 j hj, fun q q1 q2 q3 q4 q5 => by rw [y1 q q1]; exact hI.fr.2 q q1 q2 q3 q4 q5⟩
  first | refine ev_aload_n dX9_doLoop_72 rfl ?_ | refine ev_aloadX_n dX9_doLoop_72 rfl ?_
  refine ev_iload_n dX9_doLoop_73 rfl ?_
  refine ev_callv (ci := 9) (k_widen he hE X1 (f1.sg hs) (by rw [y1 58 (by decide)]; exact hI.r8) (by intro j h1 h2; rw [y1 62 (by decide), hI.rv j h1 h2]; have := itR_bd F bd m j; omega)) dX9_doLoop_74 tX9_widen.1 kX9_215 tX9_widen.2.1 tX9_widen.2.2.1 rfl (by first | rfl | assumption) tX9_widen.2.2.2 ⟨⟨Nat.le_of_ble_eq_true rfl, Nat.le_of_ble_eq_true rfl⟩, Nat.le_of_ble_eq_true rfl, Nat.le_of_ble_eq_true rfl⟩ rfl (Nat.le_of_ble_eq_true rfl) ?_
  rintro r K' X2 P' ⟨rfl, rfl, rfl, w1, w2⟩
  have f2 : FrD M X2 := f1.c (fun q q1 q2 q3 q4 => w2 q q2 q4)
  have v2 : ∀ j, 0 ≤ j → j < 36 → X2 62 j = (itR F bd (m + 1)).2.1 j := fun j h1 h2 => by rw [w1 j h1 h2]; exact wdF_cg (by rw [y1 62 (by decide)]; exact hI.rv j h1 h2)
  have e58 : X2 58 = X 58 := by rw [w2 58 (by decide) (by decide), y1 58 (by decide)]
  refine ev_iconst dX9_doLoop_77 ?_
  refine ev_istore_n dX9_doLoop_78 (by decide) ?_
  first | refine ev_aload_n dX9_doLoop_79 rfl ?_ | refine ev_aloadX_n dX9_doLoop_79 rfl ?_
  first | refine ev_aload_n dX9_doLoop_80 rfl ?_ | refine ev_aloadX_n dX9_doLoop_80 rfl ?_
  refine ev_getR dX9_doLoop_81 fX9_32 rfl (by first | rfl | assumption) (by first | rfl | assumption) ?_
  refine ev_iload_n dX9_doLoop_84 rfl ?_
  refine ev_callv (ci := 9) (k_layBy (c := 62) (t := t) (by omega) rfl (by decide) X2 (f2.sg hs) (by intro j h1 h2; rw [v2 j h1 h2]; have := itR_bd F bd (m + 1) j; omega) (sym_cg v2 rk.1)) dX9_doLoop_85 tX9_layBy.1 kX9_194 tX9_layBy.2.1 tX9_layBy.2.2.1 rfl (by first | rfl | assumption) tX9_layBy.2.2.2 ⟨⟨Nat.le_of_ble_eq_true rfl, Nat.le_of_ble_eq_true rfl⟩, Nat.le_of_ble_eq_true rfl, Nat.le_of_ble_eq_true rfl⟩ rfl (Nat.le_of_ble_eq_true rfl) ?_
  rintro r K' X3 P' ⟨rfl, rfl, rfl, c3⟩
  rw [byB_cg v2, ← eT, e58] at c3
  have f3 : FrD M X3 := f2.c (fun q q1 _ _ _ => by rw [c3, rwc_ne q1])
  have e3 : X3 58 = setS (X 58) t (itT F bd (m + 1)) := by rw [c3, rwc_at]
  first | refine ev_aload_n dX9_doLoop_88 rfl ?_ | refine ev_aloadX_n dX9_doLoop_88 rfl ?_
  refine ev_iload_n dX9_doLoop_89 rfl ?_
  refine ev_iload_n dX9_doLoop_90 rfl ?_
  refine ev_callv (ci := 9) (k_doAll (t := t) (i := i) (by omega) (by omega) X3 (f3.sg hs) (by rw [e3]; exact setS_at _ _ _) o1 (by rw [f3.p]; exact hst)) dX9_doLoop_91 tX9_doAll.1 kX9_202 tX9_doAll.2.1 tX9_doAll.2.2.1 rfl (by first | rfl | assumption) tX9_doAll.2.2.2 ⟨⟨Nat.le_of_ble_eq_true rfl, Nat.le_of_ble_eq_true rfl⟩, Nat.le_of_ble_eq_true rfl, Nat.le_of_ble_eq_true rfl⟩ rfl (Nat.le_of_ble_eq_true rfl) ?_
  rintro r K' X4 P' ⟨rfl, rfl, rfl, f, a1, a2, a3⟩
  rw [f3.p] at a2
  have f4 : FrD M X4 := f3.c (fun q q1 _ _ _ => by rw [a1, rwc_ne q1])
  have e4 : X4 58 = f := by rw [a1, rwc_at]
  have rt4 : Rw f t (itT F bd (m + 1)) := a2 0 (by omega)
  have ri4 : Rw f i (bd (itT F bd (m + 1))) := by have := a2 (i - t) (by omega); rw [Nat.add_sub_of_le (by omega)] at this; rw [← hbd]; rw [← hbd] at this; exact this
  have r74 : Rw f 7 F := a3 7 F (by omega) (by rw [e3]; exact setS_ne hI.r7 (by omega))
  have lo4 : ∀ q W, q < t → Rw (M 58) q W → Rw f q W := fun q W hq h => a3 q W (by omega) (by rw [e3]; exact setS_ne (hI.lo q W hq h) (by omega))
  first | refine ev_aload_n dX9_doLoop_94 rfl ?_ | refine ev_aloadX_n dX9_doLoop_94 rfl ?_
  refine ev_iload_n dX9_doLoop_95 rfl ?_
  refine ev_iload_n dX9_doLoop_96 rfl ?_
  refine ev_bipush dX9_doLoop_97 ?_
  refine ev_callv (ci := 9) (k_join (a := t) (b := i) (t := 8) (by omega) (by omega) (by omega) (by omega) (by omega) X4 (f4.sg hs) (by rw [e4]; exact rt4) (by rw [e4]; exact ri4) o1 oB) dX9_doLoop_99 tX9_join.1 kX9_205 tX9_join.2.1 tX9_join.2.2.1 rfl (by first | rfl | assumption) tX9_join.2.2.2 ⟨⟨Nat.le_of_ble_eq_true rfl, Nat.le_of_ble_eq_true rfl⟩, Nat.le_of_ble_eq_true rfl, Nat.le_of_ble_eq_true rfl⟩ rfl (Nat.le_of_ble_eq_true rfl) ?_
  rintro r K' X5 P' ⟨rfl, rfl, rfl, j1, j2⟩
  rw [e4] at j1
  have f5 : FrD M X5 := f4.c (fun q q1 q2 q3 _ => j2 q q1 q2 q3)
  have d5 : X5 54 17 = M 54 17 + ((m + 1 : Nat) : Int) := by rw [j2 54 (by decide) (by decide) (by decide), a1, rwc_ne (by decide), c3, rwc_ne (by decide), w2 54 (by decide) (by decide), y2, hI.rd]; omega
  have v5 : ∀ j, 0 ≤ j → j < 36 → X5 62 j = (itR F bd (m + 1)).2.1 j := fun j h1 h2 => by rw [j2 62 (by decide) (by decide) (by decide), a1, rwc_ne (by decide), c3, rwc_ne (by decide)]; exact v2 j h1 h2
  have hL : LI M X5 t i F bd (m + 1) := LI.mk (by rw [j1]; exact setS_ne rt4 (by omega)) (by rw [j1]; exact setS_ne ri4 (by omega)) (by rw [j1]; exact setS_at _ _ _) (by rw [j1]; exact setS_ne r74 (by omega)) v5 d5 (fun q W hq h => by rw [j1]; exact setS_ne (lo4 q W hq h) (by omega)) f5
  refine ev_goto (tgt := 52) dX9_doLoop_102 (by decide) ?_
  exact ev_to (hP X5 hL) (by repeat (first | exact trivial | refine ⟨rfl, ?_⟩)) rfl rfl rfl rfl
theorem k_doLoop {t i N : Nat} (hti : t < i) (hi : i < 6) (M : Mm) (hs : sgA M) {F : PS} (hF : Rw (M 58) t F) (oF : Oct F) (ha : M 57 (4 * (i : Int) + 1) = t) (hst : ∀ j : Nat, t ≤ j → j < i → mOK (M 57) j) {bd : PS → PS} (hbd : bdy (mK (M 57)) (mA (M 57)) (mB (M 57)) (mZ (M 57)) t i = bd) (hN : LoopN F bd N) (h17 : 0 ≤ M 54 17 ∧ M 54 17 ≤ 100000) : Cm mX9_doLoop [vR 54, vI (i : Int)] M (dlP M t i F bd N) := by
  have hbo : ∀ T, Oct T → Oct (bd T) := by rw [← hbd]; exact oct_bdy (Nat.le_of_lt hti) hst
  have hN40 : N ≤ 40 := by
    obtain ⟨N', h1, h2⟩ := loop_ends oF hbo
    have := hN.uniq h2
    omega
  have oT : ∀ m, m ≤ N → Oct (itT F bd m) := fun m hm => (it_ok oF hbo m (fun j hj => hN.2 j (by omega))).1
  have cF := crd_rng F
  have zF : crd F = 0 ↔ ∀ p, ¬ F p := crd_0 (oct_in oF)
  have lp : ∀ X e, LI M X t i F bd 0 → (e = 0 ∨ e = 1) → (e = 1 ↔ (itR F bd 0).1) → Ev mX9_doLoop 52 [some (vR 54), some (vI (i : Int)), some (vI (t : Int)), some (vI e)] [] KK X PP 0 0 (Rz mX9_doLoop (dlP M t i F bd N)) := by
    refine up_loop (P := fun m => ∀ X e, LI M X t i F bd m → (e = 0 ∨ e = 1) → (e = 1 ↔ (itR F bd m).1) → Ev mX9_doLoop 52 [some (vR 54), some (vI (i : Int)), some (vI (t : Int)), some (vI e)] [] KK X PP 0 0 (Rz mX9_doLoop (dlP M t i F bd N))) N ?_ ?_
    · intro X e hI he hE
      have o1 := oT N (Nat.le_refl N)
      have o2 := oct_join o1 (hbo _ o1)
      have hc : itN F bd N = itT F bd N := by
        funext p
        apply propext
        exact ⟨hN.1 p, fun h => join_l h (oct_in o1 p h)⟩
      first | refine ev_aload_n dX9_doLoop_52 rfl ?_ | refine ev_aloadX_n dX9_doLoop_52 rfl ?_
      refine ev_bipush dX9_doLoop_53 ?_
      refine ev_iload_n dX9_doLoop_55 rfl ?_
      refine ev_callv (ci := 9) (k_isLike (k := 8) (t := t) (by omega) (by omega) X hI.r8 hI.rt (oct_in o2) (oct_in o1)) dX9_doLoop_56 tX9_isLike.1 kX9_208 tX9_isLike.2.1 tX9_isLike.2.2.1 rfl (by first | rfl | assumption) tX9_isLike.2.2.2 ⟨⟨Nat.le_of_ble_eq_true rfl, Nat.le_of_ble_eq_true rfl⟩, Nat.le_of_ble_eq_true rfl, Nat.le_of_ble_eq_true rfl⟩ rfl (Nat.le_of_ble_eq_true rfl) ?_
      rintro r K' M' P' ⟨rfl, rfl, ⟨v56, rfl, hw56, hv56⟩, hM'⟩
      rw [hM']
      clear hM' M'
      refine ev_if_ne (tgt := 105) dX9_doLoop_59 (by decide) (by omega) (fun hb59 => ?_) (fun hb59 => ?_)
      · have g56 := hv56.mp (by omega)
        exact ev_to (dl_end (u := none) hti hi hs oF (hbo _ o1) hst hI) (by repeat (first | exact trivial | refine ⟨rfl, ?_⟩)) rfl rfl rfl rfl
      · have g56 := (not_congr hv56).mp (by omega)
        exact absurd hc g56
    · intro m hm hP X e hI he hE
      have o1 := oT m (by omega)
      have o2 := oct_join o1 (hbo _ o1)
      have hc : itN F bd m ≠ itT F bd m := fun z => hN.2 m hm (fun p hp => by rw [z] at hp; exact hp)
      first | refine ev_aload_n dX9_doLoop_52 rfl ?_ | refine ev_aloadX_n dX9_doLoop_52 rfl ?_
      refine ev_bipush dX9_doLoop_53 ?_
      refine ev_iload_n dX9_doLoop_55 rfl ?_
      refine ev_callv (ci := 9) (k_isLike (k := 8) (t := t) (by omega) (by omega) X hI.r8 hI.rt (oct_in o2) (oct_in o1)) dX9_doLoop_56 tX9_isLike.1 kX9_208 tX9_isLike.2.1 tX9_isLike.2.2.1 rfl (by first | rfl | assumption) tX9_isLike.2.2.2 ⟨⟨Nat.le_of_ble_eq_true rfl, Nat.le_of_ble_eq_true rfl⟩, Nat.le_of_ble_eq_true rfl, Nat.le_of_ble_eq_true rfl⟩ rfl (Nat.le_of_ble_eq_true rfl) ?_
      rintro r K' M' P' ⟨rfl, rfl, ⟨v56, rfl, hw56, hv56⟩, hM'⟩
      rw [hM']
      clear hM' M'
      refine ev_if_ne (tgt := 105) dX9_doLoop_59 (by decide) (by omega) (fun hb59 => ?_) (fun hb59 => ?_)
      · have g56 := hv56.mp (by omega)
        exact absurd g56 hc
      · have g56 := (not_congr hv56).mp (by omega)
        exact ev_to (dl_round hti hi hs oF hst hbd hbo (fun j hj => hN.2 j (by omega)) h17 (by omega) hI he hE (fun Y hY => hP Y 0 hY (Or.inl rfl) ⟨fun z => by omega, fun z => z.elim⟩)) (by repeat (first | exact trivial | refine ⟨rfl, ?_⟩)) rfl rfl rfl rfl
  have oB := hbo _ oF
  have mid : ∀ e : Int, (e = 0 ∨ e = 1) → (e = 1 ↔ ∀ p, ¬ F p) → Ev mX9_doLoop 28 [some (vR 54), some (vI (i : Int)), some (vI (t : Int)), some (vI e)] [] KK (rwc M 58 (setS (M 58) 7 F)) PP 0 0 (Rz mX9_doLoop (dlP M t i F bd N)) := by
    intro e he hE
    have f1 : FrD M (rwc M 58 (setS (M 58) 7 F)) := FrD.c (M1 := M) ⟨fun _ _ => rfl, fun _ _ _ _ _ _ => rfl⟩ (fun q q1 _ _ _ => rwc_ne q1)
    have e1 : rwc M 58 (setS (M 58) 7 F) 58 = setS (M 58) 7 F := rwc_at _ _ _
    have d1 : rwc M 58 (setS (M 58) 7 F) 54 = M 54 := rwc_ne (by decide)
    generalize rwc M 58 (setS (M 58) 7 F) = X1 at f1 e1 d1 ⊢
    first | refine ev_aload_n dX9_doLoop_28 rfl ?_ | refine ev_aloadX_n dX9_doLoop_28 rfl ?_
    refine ev_bipush dX9_doLoop_29 ?_
    first | refine ev_aload_n dX9_doLoop_31 rfl ?_ | refine ev_aloadX_n dX9_doLoop_31 rfl ?_
    refine ev_getR dX9_doLoop_32 fX9_32 rfl (by first | rfl | assumption) (by first | rfl | assumption) ?_
    refine ev_callv (ci := 9) (k_layBounds (k := 7) (c := 62) (S := F) (by omega) rfl (by decide) (by decide) X1 (f1.sg hs) (by rw [e1]; exact setS_at _ _ _)) dX9_doLoop_35 tX9_layBounds.1 kX9_191 tX9_layBounds.2.1 tX9_layBounds.2.2.1 rfl (by first | rfl | assumption) tX9_layBounds.2.2.2 ⟨⟨Nat.le_of_ble_eq_true rfl, Nat.le_of_ble_eq_true rfl⟩, Nat.le_of_ble_eq_true rfl, Nat.le_of_ble_eq_true rfl⟩ rfl (Nat.le_of_ble_eq_true rfl) ?_
    rintro r K' X2 P' ⟨rfl, rfl, rfl, c2⟩
    have f2 : FrD M X2 := f1.c (fun q q1 _ _ q4 => by rw [c2, rwc_ne q4])
    have e2 : X2 58 = setS (M 58) 7 F := by rw [c2, rwc_ne (by decide), e1]
    first | refine ev_aload_n dX9_doLoop_38 rfl ?_ | refine ev_aloadX_n dX9_doLoop_38 rfl ?_
    refine ev_iload_n dX9_doLoop_39 rfl ?_
    refine ev_iload_n dX9_doLoop_40 rfl ?_
    refine ev_callv (ci := 9) (k_doAll (t := t) (i := i) (by omega) (by omega) X2 (f2.sg hs) (by rw [e2]; exact setS_ne hF (by omega)) oF (by rw [f2.p]; exact hst)) dX9_doLoop_41 tX9_doAll.1 kX9_202 tX9_doAll.2.1 tX9_doAll.2.2.1 rfl (by first | rfl | assumption) tX9_doAll.2.2.2 ⟨⟨Nat.le_of_ble_eq_true rfl, Nat.le_of_ble_eq_true rfl⟩, Nat.le_of_ble_eq_true rfl, Nat.le_of_ble_eq_true rfl⟩ rfl (Nat.le_of_ble_eq_true rfl) ?_
    rintro r K' X4 P' ⟨rfl, rfl, rfl, f, a1, a2, a3⟩
    rw [f2.p] at a2
    have f4 : FrD M X4 := f2.c (fun q q1 _ _ _ => by rw [a1, rwc_ne q1])
    have e4 : X4 58 = f := by rw [a1, rwc_at]
    have rt4 : Rw f t F := a2 0 (by omega)
    have ri4 : Rw f i (bd F) := by have := a2 (i - t) (by omega); rw [Nat.add_sub_of_le (by omega)] at this; rw [← hbd]; exact this
    have r74 : Rw f 7 F := a3 7 F (by omega) (by rw [e2]; exact setS_at _ _ _)
    have lo4 : ∀ q W, q < t → Rw (M 58) q W → Rw f q W := fun q W hq h => a3 q W (by omega) (by rw [e2]; exact setS_ne h (by omega))
    first | refine ev_aload_n dX9_doLoop_44 rfl ?_ | refine ev_aloadX_n dX9_doLoop_44 rfl ?_
    refine ev_iload_n dX9_doLoop_45 rfl ?_
    refine ev_iload_n dX9_doLoop_46 rfl ?_
    refine ev_bipush dX9_doLoop_47 ?_
    refine ev_callv (ci := 9) (k_join (a := t) (b := i) (t := 8) (by omega) (by omega) (by omega) (by omega) (by omega) X4 (f4.sg hs) (by rw [e4]; exact rt4) (by rw [e4]; exact ri4) oF oB) dX9_doLoop_49 tX9_join.1 kX9_205 tX9_join.2.1 tX9_join.2.2.1 rfl (by first | rfl | assumption) tX9_join.2.2.2 ⟨⟨Nat.le_of_ble_eq_true rfl, Nat.le_of_ble_eq_true rfl⟩, Nat.le_of_ble_eq_true rfl, Nat.le_of_ble_eq_true rfl⟩ rfl (Nat.le_of_ble_eq_true rfl) ?_
    rintro r K' X5 P' ⟨rfl, rfl, rfl, j1, j2⟩
    rw [e4] at j1
    have f5 : FrD M X5 := f4.c (fun q q1 q2 q3 _ => j2 q q1 q2 q3)
    have d5 : X5 54 17 = M 54 17 + ((0 : Nat) : Int) := by rw [j2 54 (by decide) (by decide) (by decide), a1, rwc_ne (by decide), c2, rwc_ne (by decide), d1]; omega
    have v5 : ∀ j, 0 ≤ j → j < 36 → X5 62 j = (itR F bd 0).2.1 j := fun j h1 h2 => by rw [j2 62 (by decide) (by decide) (by decide), a1, rwc_ne (by decide), c2, rwc_at]; exact bnS_in h1 h2
    have hL : LI M X5 t i F bd 0 := LI.mk (by rw [j1]; exact setS_ne rt4 (by omega)) (by rw [j1]; exact setS_ne ri4 (by omega)) (by rw [j1]; exact setS_at _ _ _) (by rw [j1]; exact setS_ne r74 (by omega)) v5 d5 (fun q W hq h => by rw [j1]; exact setS_ne (lo4 q W hq h) (by omega)) f5
    exact ev_to (lp X5 e hL he hE) (by repeat (first | exact trivial | refine ⟨rfl, ?_⟩)) rfl rfl rfl rfl
  refine cm_of (by decide +kernel) (fun _ => trivial) (Nat.le_of_ble_eq_true rfl) ?_
  first | refine ev_aload_n dX9_doLoop_0 rfl ?_ | refine ev_aloadX_n dX9_doLoop_0 rfl ?_
  refine ev_iload_n dX9_doLoop_1 rfl ?_
  refine ev_callv (ci := 9) (k_one (by omega) (by omega) M) dX9_doLoop_2 tX9_one.1 kX9_149 tX9_one.2.1 tX9_one.2.2.1 rfl (by first | rfl | assumption) tX9_one.2.2.2 ⟨⟨Nat.le_of_ble_eq_true rfl, Nat.le_of_ble_eq_true rfl⟩, Nat.le_of_ble_eq_true rfl, Nat.le_of_ble_eq_true rfl⟩ rfl (Nat.le_of_ble_eq_true rfl) ?_
  rintro r K' M' P' ⟨rfl, rfl, rfl, hM'⟩
  rw [hM']
  clear hM' M'
  rw [ha]
  refine ev_istore_n dX9_doLoop_5 (by decide) ?_
  first | refine ev_aload_n dX9_doLoop_6 rfl ?_ | refine ev_aloadX_n dX9_doLoop_6 rfl ?_
  refine ev_iload_n dX9_doLoop_7 rfl ?_
  refine ev_bipush dX9_doLoop_8 ?_
  refine ev_callv (ci := 9) (k_copyShape (k := t) (t := 7) (by omega) (by omega) (by omega) M hF) dX9_doLoop_10 tX9_copyShape.1 kX9_188 tX9_copyShape.2.1 tX9_copyShape.2.2.1 rfl (by first | rfl | assumption) tX9_copyShape.2.2.2 ⟨⟨Nat.le_of_ble_eq_true rfl, Nat.le_of_ble_eq_true rfl⟩, Nat.le_of_ble_eq_true rfl, Nat.le_of_ble_eq_true rfl⟩ rfl (Nat.le_of_ble_eq_true rfl) ?_
  rintro r K' M' P' ⟨rfl, rfl, rfl, hM'⟩
  rw [hM']
  clear hM' M'
  first | refine ev_aload_n dX9_doLoop_13 rfl ?_ | refine ev_aloadX_n dX9_doLoop_13 rfl ?_
  refine ev_bipush dX9_doLoop_14 ?_
  refine ev_callv (ci := 9) (k_pts (k := 7) (S := F) (by omega) _ (by rw [rwc_at]; exact setS_at _ _ _)) dX9_doLoop_16 tX9_pointsIn.1 kX9_185 tX9_pointsIn.2.1 tX9_pointsIn.2.2.1 rfl (by first | rfl | assumption) tX9_pointsIn.2.2.2 ⟨⟨Nat.le_of_ble_eq_true rfl, Nat.le_of_ble_eq_true rfl⟩, Nat.le_of_ble_eq_true rfl, Nat.le_of_ble_eq_true rfl⟩ rfl (Nat.le_of_ble_eq_true rfl) ?_
  rintro r K' M' P' ⟨rfl, rfl, rfl, hM'⟩
  rw [hM']
  clear hM' M'
  refine ev_if_ne (tgt := 26) dX9_doLoop_19 (by decide) (by omega) (fun hb19 => ?_) (fun hb19 => ?_)
  · refine ev_iconst dX9_doLoop_26 ?_
    refine ev_istore_n dX9_doLoop_27 (by decide) ?_
    first | exact ev_to (mid 1 (Or.inr rfl) ⟨fun _ => zF.mp (by omega), fun _ => rfl⟩) (by repeat (first | exact trivial | refine ⟨rfl, ?_⟩)) rfl rfl rfl rfl | exact ev_to (mid 0 (Or.inl rfl) ⟨fun z => by omega, fun z => by have := zF.mpr z; omega⟩) (by repeat (first | exact trivial | refine ⟨rfl, ?_⟩)) rfl rfl rfl rfl
  · refine ev_iconst dX9_doLoop_22 ?_
    refine ev_goto (tgt := 27) dX9_doLoop_23 (by decide) ?_
    refine ev_istore_n dX9_doLoop_27 (by decide) ?_
    first | exact ev_to (mid 1 (Or.inr rfl) ⟨fun _ => zF.mp (by omega), fun _ => rfl⟩) (by repeat (first | exact trivial | refine ⟨rfl, ?_⟩)) rfl rfl rfl rfl | exact ev_to (mid 0 (Or.inl rfl) ⟨fun z => by omega, fun z => by have := zF.mpr z; omega⟩) (by repeat (first | exact trivial | refine ⟨rfl, ?_⟩)) rfl rfl rfl rfl
