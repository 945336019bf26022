/-! ===== the class: fault, program ===== -/
theorem c_faultOf {m : Nat} (M : Mm) (hs : M 1 1 = m) (hm : m ≤ 36) (hl : ∀ j : Nat, j < m → 1 ≤ M 2 j ∧ M 2 j ≤ 126) (h0 : RI (rd0 M)) : Cm mX3_faultOf [vR 3, vR 1] M (fun r M' => ∃ k : Nat, k ≤ m ∧ r = some (vI (k : Int)) ∧ rdC (M 2) (rd0 M) k M' ∧ (k < m → ∀ M2, ¬ rdA M' (M 2 k) M2)) := by
  have e1 : rd0 M 1 = M 1 := by unfold rd0; rw [upM_o (by decide), upM_o (by decide)]
  have e2 : rd0 M 2 = M 2 := by unfold rd0; rw [upM_o (by decide), upM_o (by decide)]
  have lp : ∀ X, rdC (M 2) (rd0 M) 0 X → Ev mX3_faultOf 15 [some (vR 3), some (vR 1), some (vI ((0 : Nat) : Int))] [] KK X PP 0 0 (Rz mX3_faultOf (fun r M' => ∃ k : Nat, k ≤ m ∧ r = some (vI (k : Int)) ∧ rdC (M 2) (rd0 M) k M' ∧ (k < m → ∀ M2, ¬ rdA M' (M 2 k) M2))) := by
    refine up_loop (P := fun i => ∀ X, rdC (M 2) (rd0 M) i X → Ev mX3_faultOf 15 [some (vR 3), some (vR 1), some (vI (i : Int))] [] KK X PP 0 0 _) m ?_ ?_
    · intro X hX
      have x1 : X 1 1 = m := by rw [rdC_fr m X hX 1 (by decide), e1]; exact hs
      refine ev_iload_n dX3_faultOf_15 rfl ?_
      first | refine ev_aload_n dX3_faultOf_16 rfl ?_ | refine ev_aloadX_n dX3_faultOf_16 rfl ?_
      refine ev_gI 1 dX3_faultOf_17 fX3_25 rfl (by first | rfl | assumption) rfl ?_
      rw [x1]
      refine ev_icmp_ge (tgt := 44) dX3_faultOf_20 (by decide) (by omega) (by omega) (fun hb20 => ?_) (fun hb20 => ?_)
      · first | refine ev_aload_n dX3_faultOf_44 rfl ?_ | refine ev_aloadX_n dX3_faultOf_44 rfl ?_
        refine ev_gI 1 dX3_faultOf_45 fX3_25 rfl (by first | rfl | assumption) rfl ?_
        rw [x1]
        exact ev_ireturn dX3_faultOf_48 ⟨_, rfl, rfl⟩ (rz ⟨m, Nat.le_refl m, rfl, hX, fun h => by omega⟩)
      · omega
    · intro i hi hP X hX
      have x1 : X 1 1 = m := by rw [rdC_fr i X hX 1 (by decide), e1]; exact hs
      have x2 : X 2 = M 2 := by rw [rdC_fr i X hX 2 (by decide), e2]
      have hz := hl i hi
      have hR := rdC_RI h0 i X (fun j hj => hl j (by omega)) hX
      refine ev_iload_n dX3_faultOf_15 rfl ?_
      first | refine ev_aload_n dX3_faultOf_16 rfl ?_ | refine ev_aloadX_n dX3_faultOf_16 rfl ?_
      refine ev_gI 1 dX3_faultOf_17 fX3_25 rfl (by first | rfl | assumption) rfl ?_
      rw [x1]
      refine ev_icmp_ge (tgt := 44) dX3_faultOf_20 (by decide) (by omega) (by omega) (fun hb20 => ?_) (fun hb20 => ?_)
      · omega
      · first | refine ev_aload_n dX3_faultOf_23 rfl ?_ | refine ev_aloadX_n dX3_faultOf_23 rfl ?_
        first | refine ev_aload_n dX3_faultOf_24 rfl ?_ | refine ev_aloadX_n dX3_faultOf_24 rfl ?_
        refine ev_getR dX3_faultOf_25 fX3_28 rfl (by first | rfl | assumption) (by first | rfl | assumption) ?_
        refine ev_iload_n dX3_faultOf_28 rfl ?_
        refine ev_iaload dX3_faultOf_29 (by first | rfl | assumption) (by omega) (by omega) (by decide) ?_
        rw [x2]
        refine ev_callv (ci := 3) (c_accepts hz.1 hz.2 X hR.rd) dX3_faultOf_30 tX3_accepts.1 kX3_32 tX3_accepts.2.1 tX3_accepts.2.2.1 rfl (by first | rfl | assumption) tX3_accepts.2.2.2 ⟨⟨Nat.le_of_ble_eq_true rfl, Nat.le_of_ble_eq_true rfl⟩, Nat.le_of_ble_eq_true rfl, Nat.le_of_ble_eq_true rfl⟩ rfl (Nat.le_of_ble_eq_true rfl) ?_
        rintro r K' Y P' ⟨rfl, rfl, hY⟩
        obtain ⟨v, rfl, hv, hv0, hv1⟩ : ∃ v : Int, r = some (vI v) ∧ (v = 0 ∨ v = 1) ∧ (v = 0 → (∀ M2, ¬ rdA X (M 2 i) M2) ∧ Y = X) ∧ (v = 1 → rdA X (M 2 i) Y) := by rcases hY with ⟨e, q1, q2⟩ | ⟨e, q1⟩; exact ⟨0, e, Or.inl rfl, fun _ => ⟨q1, q2⟩, fun h => by omega⟩; exact ⟨1, e, Or.inr rfl, fun h => by omega, fun _ => q1⟩
        refine ev_if_ne (tgt := 38) dX3_faultOf_33 (by decide) (by omega) (fun hb33 => ?_) (fun hb33 => ?_)
        · refine ev_iinc dX3_faultOf_38 rfl (by decide) ?_
          refine ev_goto (tgt := 15) dX3_faultOf_41 (by decide) ?_
          exact ev_to (hP Y ⟨X, hX, hv1 (by omega)⟩) (by repeat (first | exact trivial | refine ⟨rfl, ?_⟩)) rfl rfl rfl rfl
        · have q0 := hv0 (by omega)
          rw [q0.2]
          refine ev_iload_n dX3_faultOf_36 rfl ?_
          exact ev_ireturn dX3_faultOf_37 ⟨_, rfl, rfl⟩ (rz ⟨i, by omega, rfl, hX, fun _ => q0.1⟩)
  have l0 := lp (rd0 M) rfl
  refine cm_of (by decide +kernel) (fun _ => trivial) (Nat.le_of_ble_eq_true rfl) ?_
  first | refine ev_aload_n dX3_faultOf_0 rfl ?_ | refine ev_aloadX_n dX3_faultOf_0 rfl ?_
  refine ev_getR dX3_faultOf_1 fX3_12 rfl (by first | rfl | assumption) (by first | rfl | assumption) ?_
  refine ev_iconst dX3_faultOf_4 ?_
  refine ev_pI 4 dX3_faultOf_5 sX3_18 rfl (by first | rfl | assumption) rfl ?_
  first | refine ev_aload_n dX3_faultOf_8 rfl ?_ | refine ev_aloadX_n dX3_faultOf_8 rfl ?_
  refine ev_iconst dX3_faultOf_9 ?_
  refine ev_pI 1 dX3_faultOf_10 sX3_22 rfl (by first | rfl | assumption) rfl ?_
  refine ev_iconst dX3_faultOf_13 ?_
  refine ev_istore_n dX3_faultOf_14 (by decide) ?_
  exact ev_to l0 (by repeat (first | exact trivial | refine ⟨rfl, ?_⟩)) rfl rfl rfl rfl
theorem c_atAnEnd (M : Mm) (h1 : -1 ≤ M 3 1 ∧ M 3 1 ≤ 4) (h2 : M 3 1 ≠ -1 → 0 ≤ M 3 2 ∧ M 3 2 ≤ fml (M 3 1)) : Cm mX3_atAnEnd [vR 3] M (fun r M' => yn (M 3 1 ≠ -1 ∧ M 3 2 = fml (M 3 1)) r ∧ M' = M) := by
  have hl := sl5 (fm (M 3 1)) (fm_lt _)
  have hfl : fml (M 3 1) = ((s_len.getD (fm (M 3 1)) 0 : Nat) : Int) := rfl
  refine cm_of (by decide +kernel) (fun _ => trivial) (Nat.le_of_ble_eq_true rfl) ?_
  first | refine ev_aload_n dX3_atAnEnd_0 rfl ?_ | refine ev_aloadX_n dX3_atAnEnd_0 rfl ?_
  refine ev_gI 1 dX3_atAnEnd_1 fX3_22 rfl (by first | rfl | assumption) rfl ?_
  refine ev_iconst dX3_atAnEnd_4 ?_
  refine ev_icmp_eq (tgt := 29) dX3_atAnEnd_5 (by decide) (by omega) (by omega) (fun h => ?_) (fun h => ?_)
  · refine ev_iconst dX3_atAnEnd_29 ?_
    exact ev_ireturn dX3_atAnEnd_30 (okR_z rfl (by first | exact Or.inl rfl | exact Or.inr rfl | assumption)) (rz ⟨yn_0 (fun z => z.1 h), rfl⟩)
  have h3 := h2 h
  first | refine ev_aload_n dX3_atAnEnd_8 rfl ?_ | refine ev_aloadX_n dX3_atAnEnd_8 rfl ?_
  refine ev_gI 2 dX3_atAnEnd_9 fX3_36 rfl (by first | rfl | assumption) rfl ?_
  first | refine ev_aload_n dX3_atAnEnd_12 rfl ?_ | refine ev_aloadX_n dX3_atAnEnd_12 rfl ?_
  refine ev_gI 1 dX3_atAnEnd_13 fX3_22 rfl (by first | rfl | assumption) rfl ?_
  refine ev_calls (c_formOf h1.1 h1.2 _) dX3_atAnEnd_16 tX3_formOf.1 kX3_39 tX3_formOf.2.1 tX3_formOf.2.2 ⟨⟨Nat.le_of_ble_eq_true rfl, Nat.le_of_ble_eq_true rfl⟩, Nat.le_of_ble_eq_true rfl, Nat.le_of_ble_eq_true rfl⟩ rfl (Nat.le_of_ble_eq_true rfl) ?_
  rintro r K' M' P' ⟨rfl, rfl, rfl, hM'⟩
  rw [hM']
  clear hM' M'
  refine ev_callX (i := fm (M 3 1)) (fm_lt _) (c_length (fm_lt _) _) dX3_atAnEnd_19 tJ0_length_8abf5.1 (wsg_in 431 (by decide +kernel) (by decide +kernel)) tJ0_length_8abf5.2.1 tJ0_length_8abf5.2.2.1 tJ0_length_8abf5.2.2.2 ⟨⟨Nat.le_of_ble_eq_true rfl, Nat.le_of_ble_eq_true rfl⟩, Nat.le_of_ble_eq_true rfl, Nat.le_of_ble_eq_true rfl⟩ rfl (Nat.le_of_ble_eq_true rfl) ?_
  rintro r K' M' P' ⟨rfl, rfl, rfl, hM'⟩
  rw [hM']
  clear hM' M'
  refine ev_icmp_ne (tgt := 29) dX3_atAnEnd_22 (by decide) (by omega) (by omega) (fun h4 => ?_) (fun h4 => ?_)
  · refine ev_iconst dX3_atAnEnd_29 ?_
    exact ev_ireturn dX3_atAnEnd_30 (okR_z rfl (by first | exact Or.inl rfl | exact Or.inr rfl | assumption)) (rz ⟨yn_0 (fun z => h4 z.2), rfl⟩)
  · refine ev_iconst dX3_atAnEnd_25 ?_
    refine ev_goto (tgt := 30) dX3_atAnEnd_26 (by decide) ?_
    exact ev_ireturn dX3_atAnEnd_30 (okR_z rfl (by first | exact Or.inl rfl | exact Or.inr rfl | assumption)) (rz ⟨yn_1 ⟨h, h4⟩, rfl⟩)
theorem CJ.rd {M M' : Mm} {n : Nat} (hJ : CJ M n) (f : ∀ q, q < 3 ∨ 8 < q → M' q = M q) (hR : RI M') : CJ M' n := by
  obtain ⟨m, i1, i2, i3, i4, i5, i6, i7, i8, i9, i10⟩ := hR.rd
  apply CJ.mk
  case sz => rw [f 9 (by decide)]; exact hJ.sz
  case n6 => exact hJ.n6
  case ok => rw [f 10 (by decide), f 11 (by decide), f 12 (by decide), f 13 (by decide)]; exact hJ.ok
  case b9 => intro j; rw [f _ (by decide), f _ (by decide), f _ (by decide), f _ (by decide)]; exact hJ.b9 j
  case b4 => exact hR.bb
  case b43 => intro j; rw [f _ (by decide), f _ (by decide), f _ (by decide), f _ (by decide)]; exact hJ.b43 j
  case pg0 => rw [f 1 (by decide)]; exact hJ.pg0
  case pg1 => rw [f 1 (by decide)]; exact hJ.pg1
  case pgl => intro j; rw [f 1 (by decide), f 2 (by decide)]; exact hJ.pgl j
  case rd3 => exact ⟨i7, i8, i9, i10⟩
  case rkb => intro j; rw [f 38 (by decide)]; exact hJ.rkb j
  case sn0 => rw [f 40 (by decide)]; exact hJ.sn0
  case sn1 => rw [f 40 (by decide)]; exact hJ.sn1
  case snb => intro j; rw [f 41 (by decide), f 49 (by decide)]; exact hJ.snb j
  case snr => intro j; rw [f 42 (by decide), f 50 (by decide)]; exact hJ.snr j
  case im0 => rw [f 0 (by decide)]; exact hJ.im0
  case im1 => rw [f 0 (by decide), f 43 (by decide), f 44 (by decide), f 45 (by decide), f 46 (by decide), f 47 (by decide), f 48 (by decide)]; exact hJ.im1
  case rdg => rw [f 0 (by decide)]; exact hJ.rdg
  case sc => rw [f 52 (by decide)]; exact hJ.sc
theorem RunOK.fr {M M' : Mm} {n : Nat} (h : RunOK M n) (f : ∀ q, 8 < q → q ≤ 36 → q ≠ 16 → M' q = M q) : RunOK M' n ∨ 6 < n := by
  by_cases h6 : 6 < n
  · exact Or.inr h6
  obtain ⟨A, r, h1, h2, h3, h4⟩ := h
  refine Or.inl ⟨A, r, by rw [f 10 (by decide) (by decide) (by decide), f 11 (by decide) (by decide) (by decide), f 12 (by decide) (by decide) (by decide), f 13 (by decide) (by decide) (by decide)]; exact h1, by rw [f 14 (by decide) (by decide) (by decide)]; exact h2, h3, fun q hq => ?_⟩
  exact Rp_cg (h4 q hq) (by rw [f _ (by unfold aC; omega) (by unfold aC; omega) (by unfold aC; omega)]) (fun j _ _ => by rw [f _ (by unfold aC; omega) (by unfold aC; omega) (by unfold aC; omega)])
/-- what stands beside the steps is another: the run stays -/
theorem CI.ch {M M' : Mm} {n : Nat} (hC : CI M n) (hJ : CJ M' n) (f : ∀ q, 8 < q → q ≤ 36 → M' q = M q) (hr : ∀ j, 0 ≤ j → j < 5 → 0 ≤ M' 39 j ∧ M' 39 j ≤ 3) : CI M' n := by
  have h6 := hC.n6
  apply CI.mk
  case j => exact hJ
  case rn =>
    intro hn
    rcases (hC.rn hn).fr (M' := M') (fun q a b _ => f q a b) with h | h
    · exact h
    · omega
  case r0 => intro h; rw [f 14 (by decide) (by decide)]; exact hC.r0 h
  case ct =>
    intro hn j hj
    have e : cntF M' (aC j) = cntF M (aC j) := by unfold cntF; rw [f _ (by unfold aC; omega) (by unfold aC; omega), f _ (by unfold aC; omega) (by unfold aC; omega)]
    rw [e, f 16 (by decide) (by decide)]
    exact hC.ct hn j hj
  case rk => exact hr
theorem CI.rd {M M' : Mm} {n : Nat} (hC : CI M n) (f : ∀ q, q < 3 ∨ 8 < q → M' q = M q) (hR : RI M') : CI M' n := hC.ch (hC.j.rd f hR) (fun q h _ => f q (Or.inr h)) (by rw [f 39 (by decide)]; exact hC.rk)
theorem rdC_f0 {M X : Mm} {k : Nat} (h : rdC (M 2) (rd0 M) k X) : ∀ q, q < 3 ∨ 8 < q → X q = M q := fun q hq => by
  rw [rdC_fr k X h q hq]
  unfold rd0
  rw [upM_o (by omega), upM_o (by omega)]
/-- what reading the page comes to -/
def rdE (M : Mm) (m k : Nat) (X : Mm) : Prop := k ≤ m ∧ rdC (M 2) (rd0 M) k X ∧ (k < m → ∀ M2, ¬ rdA X (M 2 k) M2)
theorem c_fault {n m : Nat} (M : Mm) (hC : CI M n) (hs : M 1 1 = m) : Cm mX8_fault [vR 0] M (fun r M' => ∃ k : Nat, rdE M m k M' ∧ r = some (vI (k : Int)) ∧ RI M') := by
  have hp := hC.pg1
  have h0 := rd0_RI hC.b4 hC.rd3
  have hl : ∀ j : Nat, j < m → 1 ≤ M 2 j ∧ M 2 j ≤ 126 := fun j hj => hC.pgl j (by omega) (by omega)
  refine cm_of (by decide +kernel) (fun _ => trivial) (Nat.le_of_ble_eq_true rfl) ?_
  first | refine ev_aload_n dX8_fault_0 rfl ?_ | refine ev_aloadX_n dX8_fault_0 rfl ?_
  refine ev_getR dX8_fault_1 fX8_19 rfl (by first | rfl | assumption) (by first | rfl | assumption) ?_
  first | refine ev_aload_n dX8_fault_4 rfl ?_ | refine ev_aloadX_n dX8_fault_4 rfl ?_
  refine ev_getR dX8_fault_5 fX8_10 rfl (by first | rfl | assumption) (by first | rfl | assumption) ?_
  refine ev_callv (ci := 3) (c_faultOf (m := m) M hs (by omega) hl h0) dX8_fault_8 tX3_faultOf.1 kX8_86 tX3_faultOf.2.1 tX3_faultOf.2.2.1 rfl (by first | rfl | assumption) tX3_faultOf.2.2.2 ⟨⟨Nat.le_of_ble_eq_true rfl, Nat.le_of_ble_eq_true rfl⟩, Nat.le_of_ble_eq_true rfl, Nat.le_of_ble_eq_true rfl⟩ rfl (Nat.le_of_ble_eq_true rfl) ?_
  rintro r K' Y P' ⟨rfl, rfl, k, q1, rfl, q2, q3⟩
  exact ev_ireturn dX8_fault_11 ⟨_, rfl, rfl⟩ (rz ⟨k, ⟨q1, q2, q3⟩, rfl, rdC_RI h0 k Y (fun j hj => hl j (by omega)) q2⟩)
def prgM (M : Mm) : Mm := upM (upM (upM (upM (rw4 (rwc M 9 (up1 (M 9) 4 (M 4 4))) 9 (cpS 6 (M 5) (M 10)) (cpS 6 (M 6) (M 11)) (cpS 6 (M 7) (M 12)) (cpS 6 (M 8) (M 13))) 1 1 0) 40 2 0) 0 10 0) 0 11 (M 0 11 + 1)
theorem prgM_at {M : Mm} : prgM M 9 4 = M 4 4 ∧ prgM M 10 = cpS 6 (M 5) (M 10) ∧ prgM M 11 = cpS 6 (M 6) (M 11) ∧ prgM M 12 = cpS 6 (M 7) (M 12) ∧ prgM M 13 = cpS 6 (M 8) (M 13) ∧ prgM M 1 1 = 0 ∧ prgM M 40 2 = 0 ∧ prgM M 0 10 = 0 ∧ prgM M 0 11 = M 0 11 + 1 := by
  unfold prgM
  refine ⟨?_, ?_, ?_, ?_, ?_, ?_, ?_, ?_, ?_⟩
  · rw [upM_o (by decide), upM_o (by decide), upM_o (by decide), upM_o (by decide), rw4_o (by decide), rwc_at, up1_s]
  · rw [upM_o (by decide), upM_o (by decide), upM_o (by decide), upM_o (by decide)]; exact rw4_1 _ 9 _ _ _ _
  · rw [upM_o (by decide), upM_o (by decide), upM_o (by decide), upM_o (by decide)]; exact rw4_2 _ 9 _ _ _ _
  · rw [upM_o (by decide), upM_o (by decide), upM_o (by decide), upM_o (by decide)]; exact rw4_3 _ 9 _ _ _ _
  · rw [upM_o (by decide), upM_o (by decide), upM_o (by decide), upM_o (by decide)]; exact rw4_4 _ 9 _ _ _ _
  · rw [upM_o (by decide), upM_o (by decide), upM_o (by decide), upM_s]
  · rw [upM_o (by decide), upM_o (by decide), upM_s]
  · rw [upM_n (Or.inr (by decide)), upM_s]
  · rw [upM_s]
theorem prgM_o {M : Mm} {q : Nat} (h0 : q ≠ 0) (h1 : q ≠ 1) (h2 : q ≠ 40) (h3 : q < 9 ∨ 13 < q) : prgM M q = M q := by
  unfold prgM
  rw [upM_o h0, upM_o h0, upM_o h2, upM_o h1, rw4_o (by omega), rwc_ne (by omega)]
theorem CJ.prg {M : Mm} {n m : Nat} (hJ : CJ M n) (hR : RI M) (hm : M 4 4 = m) (hg : M 0 11 ≤ 99999) : CJ (prgM M) m := by
  obtain ⟨m', i1, i2, i3, i4, i5, i6, i7, i8, i9, i10⟩ := hR.rd
  have hmm : m = m' := by omega
  subst hmm
  obtain ⟨a1, a2, a3, a4, a5, a6, a7, a8, a9⟩ := prgM_at (M := M)
  have f : ∀ q, q ≠ 0 → q ≠ 1 → q ≠ 40 → (q < 9 ∨ 13 < q) → prgM M q = M q := fun q h0 h1 h2 h3 => prgM_o h0 h1 h2 h3
  have hg0 := hJ.rdg
  apply CJ.mk
  case sz => rw [a1]; exact hm
  case n6 => exact i2
  case ok =>
    rw [a2, a3, a4, a5]
    have := hR.ok
    rw [show (M 4 4).toNat = m by omega] at this
    exact prOK_cg this (fun j hj => ⟨cp6 (by omega) (by omega), cp6 (by omega) (by omega), cp6 (by omega) (by omega), cp6 (by omega) (by omega)⟩)
  case b9 =>
    intro j h1 h2
    have := hR.bb j h1 h2
    simp only [Nat.reduceAdd] at this ⊢
    rw [a2, a3, a4, a5, cp6 h1 h2, cp6 h1 h2, cp6 h1 h2, cp6 h1 h2]
    exact this
  case b4 => intro j; rw [f _ (by decide) (by decide) (by decide) (by decide), f _ (by decide) (by decide) (by decide) (by decide), f _ (by decide) (by decide) (by decide) (by decide), f _ (by decide) (by decide) (by decide) (by decide)]; exact hJ.b4 j
  case b43 => intro j; rw [f _ (by decide) (by decide) (by decide) (by decide), f _ (by decide) (by decide) (by decide) (by decide), f _ (by decide) (by decide) (by decide) (by decide), f _ (by decide) (by decide) (by decide) (by decide)]; exact hJ.b43 j
  case pg0 => rw [a6]; omega
  case pg1 => rw [a6]; omega
  case pgl => intro j j1 j2; rw [a6] at j2; omega
  case rd3 => rw [f 3 (by decide) (by decide) (by decide) (by decide)]; exact hJ.rd3
  case rkb => intro j; rw [f 38 (by decide) (by decide) (by decide) (by decide)]; exact hJ.rkb j
  case sn0 => rw [a7]; omega
  case sn1 => rw [a7]; omega
  case snb => intro j; rw [f 41 (by decide) (by decide) (by decide) (by decide), f 49 (by decide) (by decide) (by decide) (by decide)]; exact hJ.snb j
  case snr => intro j; rw [f 42 (by decide) (by decide) (by decide) (by decide), f 50 (by decide) (by decide) (by decide) (by decide)]; exact hJ.snr j
  case im0 => rw [a8]; omega
  case im1 => rw [a8]; intro y; omega
  case rdg => rw [a9]; omega
  case sc => rw [f 52 (by decide) (by decide) (by decide) (by decide)]; exact hJ.sc
theorem c_program {n m : Nat} (M : Mm) (hC : CI M n) (hs : M 1 1 = m) (hg : M 0 11 ≤ 99999) : Cm mX8_program [vR 0] M (fun r M' => ∃ (k : Nat) (X : Mm), rdE M m k X ∧ RI X ∧ ((¬ (k = m ∧ X 3 1 ≠ -1 ∧ X 3 2 = fml (X 3 1)) ∧ r = some (vI (-103)) ∧ M' = X) ∨ ((k = m ∧ X 3 1 ≠ -1 ∧ X 3 2 = fml (X 3 1)) ∧ ∃ c : Nat, X 4 4 = c ∧ 0 < c ∧ r = some (vI (c : Int)) ∧ CI M' c ∧ (∀ j, 0 ≤ j → j < 5 → M' 39 j = 0) ∧ FrA (prgM X) M'))) := by
  have hp := hC.pg1
  have h0 := rd0_RI hC.b4 hC.rd3
  have hl : ∀ j : Nat, j < m → 1 ≤ M 2 j ∧ M 2 j ≤ 126 := fun j hj => hC.pgl j (by omega) (by omega)
  refine cm_of (by decide +kernel) (fun _ => trivial) (Nat.le_of_ble_eq_true rfl) ?_
  first | refine ev_aload_n dX8_program_0 rfl ?_ | refine ev_aloadX_n dX8_program_0 rfl ?_
  refine ev_getR dX8_program_1 fX8_19 rfl (by first | rfl | assumption) (by first | rfl | assumption) ?_
  first | refine ev_aload_n dX8_program_4 rfl ?_ | refine ev_aloadX_n dX8_program_4 rfl ?_
  refine ev_getR dX8_program_5 fX8_10 rfl (by first | rfl | assumption) (by first | rfl | assumption) ?_
  refine ev_callv (ci := 3) (c_faultOf (m := m) M hs (by omega) hl h0) dX8_program_8 tX3_faultOf.1 kX8_86 tX3_faultOf.2.1 tX3_faultOf.2.2.1 rfl (by first | rfl | assumption) tX3_faultOf.2.2.2 ⟨⟨Nat.le_of_ble_eq_true rfl, Nat.le_of_ble_eq_true rfl⟩, Nat.le_of_ble_eq_true rfl, Nat.le_of_ble_eq_true rfl⟩ rfl (Nat.le_of_ble_eq_true rfl) ?_
  rintro r K' X P' ⟨rfl, rfl, k, q1, rfl, q2, q3⟩
  have hR := rdC_RI h0 k X (fun j hj => hl j (by omega)) q2
  have hf := rdC_f0 q2
  have x1 : X 1 1 = m := by rw [hf 1 (by decide)]; exact hs
  have hJ := hC.j.rd hf hR
  obtain ⟨c, i1, i2, i3, i4, i5, i6, i7, i8, i9, i10⟩ := id hR.rd
  have g0 : X 0 11 ≤ 99999 := by rw [hf 0 (by decide)]; exact hg
  have hJ2 := hJ.prg hR i1 g0
  have hE : rdE M m k X := ⟨q1, q2, q3⟩
  have no : ¬ (k = m ∧ X 3 1 ≠ -1 ∧ X 3 2 = fml (X 3 1)) → Rz mX8_program (fun r M' => ∃ (k : Nat) (X : Mm), rdE M m k X ∧ RI X ∧ ((¬ (k = m ∧ X 3 1 ≠ -1 ∧ X 3 2 = fml (X 3 1)) ∧ r = some (vI (-103)) ∧ M' = X) ∨ ((k = m ∧ X 3 1 ≠ -1 ∧ X 3 2 = fml (X 3 1)) ∧ ∃ c : Nat, X 4 4 = c ∧ 0 < c ∧ r = some (vI (c : Int)) ∧ CI M' c ∧ (∀ j, 0 ≤ j → j < 5 → M' 39 j = 0) ∧ FrA (prgM X) M'))) (some (vI (-103))) KK X PP 0 0 := fun h => rz ⟨k, X, hE, hR, Or.inl ⟨h, rfl, rfl⟩⟩
  first | refine ev_aload_n dX8_program_11 rfl ?_ | refine ev_aloadX_n dX8_program_11 rfl ?_
  refine ev_getR dX8_program_12 fX8_10 rfl (by first | rfl | assumption) (by first | rfl | assumption) ?_
  refine ev_gI 1 dX8_program_15 fX8_79 rfl (by first | rfl | assumption) rfl ?_
  rw [x1]
  refine ev_icmp_lt (tgt := 31) dX8_program_18 (by decide) (by omega) (by omega) (fun h1 => ?_) (fun h1 => ?_)
  · refine ev_bipush dX8_program_31 ?_
    exact ev_ireturn dX8_program_33 ⟨_, rfl, rfl⟩ (no (fun z => by omega))
  first | refine ev_aload_n dX8_program_21 rfl ?_ | refine ev_aloadX_n dX8_program_21 rfl ?_
  refine ev_getR dX8_program_22 fX8_19 rfl (by first | rfl | assumption) (by first | rfl | assumption) ?_
  refine ev_callv (ci := 3) (c_atAnEnd X i3 i4) dX8_program_25 tX3_atAnEnd.1 kX8_90 tX3_atAnEnd.2.1 tX3_atAnEnd.2.2.1 rfl (by first | rfl | assumption) tX3_atAnEnd.2.2.2 ⟨⟨Nat.le_of_ble_eq_true rfl, Nat.le_of_ble_eq_true rfl⟩, Nat.le_of_ble_eq_true rfl, Nat.le_of_ble_eq_true rfl⟩ rfl (Nat.le_of_ble_eq_true rfl) ?_
  rintro r K' M' P' ⟨rfl, rfl, ⟨v, rfl, hw, hv⟩, hM'⟩
  rw [hM']
  clear hM' M'
  refine ev_if_ne (tgt := 34) dX8_program_28 (by decide) (by omega) (fun h2 => ?_) (fun h2 => ?_)
  case refine_2 =>
    refine ev_bipush dX8_program_31 ?_
    exact ev_ireturn dX8_program_33 ⟨_, rfl, rfl⟩ (no (fun z => by have := hv.mpr z.2; omega))
  have hend := hv.mp (by omega)
  have hc0 : 0 < c := by have := hR.p6 hend.1 hend.2; omega
  first | refine ev_aload_n dX8_program_34 rfl ?_ | refine ev_aloadX_n dX8_program_34 rfl ?_
  refine ev_getR dX8_program_35 fX8_26 rfl (by first | rfl | assumption) (by first | rfl | assumption) ?_
  first | refine ev_aload_n dX8_program_38 rfl ?_ | refine ev_aloadX_n dX8_program_38 rfl ?_
  refine ev_getR dX8_program_39 fX8_19 rfl (by first | rfl | assumption) (by first | rfl | assumption) ?_
  refine ev_getR dX8_program_42 fX8_94 rfl (by first | rfl | assumption) (by first | rfl | assumption) ?_
  refine ev_callv (ci := 7) (c_stCopy isSt9 isSt4 (by decide) X) dX8_program_45 tX7_copy.1 kX8_97 tX7_copy.2.1 tX7_copy.2.2.1 rfl (by first | rfl | assumption) tX7_copy.2.2.2 ⟨⟨Nat.le_of_ble_eq_true rfl, Nat.le_of_ble_eq_true rfl⟩, Nat.le_of_ble_eq_true rfl, Nat.le_of_ble_eq_true rfl⟩ rfl (Nat.le_of_ble_eq_true rfl) ?_
  rintro r K' M' P' ⟨rfl, rfl, rfl, hM'⟩
  rw [hM']
  clear hM' M'
  first | refine ev_aload_n dX8_program_48 rfl ?_ | refine ev_aloadX_n dX8_program_48 rfl ?_
  refine ev_getR dX8_program_49 fX8_10 rfl (by first | rfl | assumption) (by first | rfl | assumption) ?_
  refine ev_iconst dX8_program_52 ?_
  refine ev_pI 1 dX8_program_53 sX8_79 rfl (by first | rfl | assumption) rfl ?_
  first | refine ev_aload_n dX8_program_56 rfl ?_ | refine ev_aloadX_n dX8_program_56 rfl ?_
  refine ev_getR dX8_program_57 fX8_47 rfl (by first | rfl | assumption) (by first | rfl | assumption) ?_
  refine ev_iconst dX8_program_60 ?_
  refine ev_pI 2 dX8_program_61 sX8_101 rfl (by first | rfl | assumption) rfl ?_
  first | refine ev_aload_n dX8_program_64 rfl ?_ | refine ev_aloadX_n dX8_program_64 rfl ?_
  refine ev_iconst dX8_program_65 ?_
  refine ev_pZ 10 dX8_program_66 sX8_71 rfl (by first | exact Or.inl rfl | exact Or.inr rfl | assumption) (by first | rfl | assumption) rfl ?_
  first | refine ev_aload_n dX8_program_69 rfl ?_ | refine ev_aloadX_n dX8_program_69 rfl ?_
  refine ev_dup dX8_program_70 ?_
  have e11 : (upM (upM (upM (rw4 (rwc X 9 (up1 (X 9) 4 (X 4 4))) 9 (cpS 6 (X (4 + 1)) (X (9 + 1))) (cpS 6 (X (4 + 2)) (X (9 + 2))) (cpS 6 (X (4 + 3)) (X (9 + 3))) (cpS 6 (X (4 + 4)) (X (9 + 4)))) 1 1 0) 40 2 0) 0 10 0) 0 11 = X 0 11 := by
    rw [upM_n (Or.inr (by decide)), upM_o (by decide), upM_o (by decide), rw4_o (by decide), rwc_ne (by decide)]
  refine ev_gI 11 dX8_program_71 fX8_75 rfl (by first | rfl | assumption) rfl ?_
  rw [e11]
  refine ev_iconst dX8_program_74 ?_
  refine ev_iadd dX8_program_75 ?_
  refine ev_pI 11 dX8_program_76 sX8_75 rfl (by first | rfl | assumption) rfl ?_
  first | refine ev_aload_n dX8_program_79 rfl ?_ | refine ev_aloadX_n dX8_program_79 rfl ?_
  refine ev_callv (ci := 8) (c_runJ (M := prgM X) hc0 hJ2) dX8_program_80 tX8_runAgain.1 kX8_102 tX8_runAgain.2.1 tX8_runAgain.2.2.1 rfl (by first | rfl | assumption) tX8_runAgain.2.2.2 ⟨⟨Nat.le_of_ble_eq_true rfl, Nat.le_of_ble_eq_true rfl⟩, Nat.le_of_ble_eq_true rfl, Nat.le_of_ble_eq_true rfl⟩ rfl (Nat.le_of_ble_eq_true rfl) ?_
  rintro r K' Y P' ⟨rfl, rfl, rfl, y1, y2, y3⟩
  have y9 := y1.sz
  first | refine ev_aload_n dX8_program_83 rfl ?_ | refine ev_aloadX_n dX8_program_83 rfl ?_
  refine ev_getR dX8_program_84 fX8_26 rfl (by first | rfl | assumption) (by first | rfl | assumption) ?_
  refine ev_gI 4 dX8_program_87 fX8_105 rfl (by first | rfl | assumption) rfl ?_
  rw [y9]
  exact ev_ireturn dX8_program_90 ⟨_, rfl, rfl⟩ (rz ⟨k, X, hE, hR, Or.inr ⟨⟨by omega, hend⟩, c, i1, hc0, rfl, y1, y2, y3⟩⟩)
