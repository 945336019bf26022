/-! ===== SumBounds: the digest ===== -/
def dg1 (g : Int → Int) : Nat → Int → Int
  | 0, h => h
  | i + 1, h => 31 * dg1 g i h + g i
noncomputable def dgSt (M : Mm) (A : Nat → PS) : Nat → Int → Int
  | 0, h => h
  | i + 1, h => dg1 (stpV M A i) 9 (dgSt M A i h)
noncomputable def bnV (S : PS) (j : Int) : Int := @ite _ (∀ p, ¬ S p) (Classical.propDecidable _) (-1) (bnF S j + 100)
noncomputable def dgSh (A : Nat → PS) : Nat → Int → Int
  | 0, h => h
  | i + 1, h => 31 * (31 * (31 * (31 * (31 * dgSh A i h + crd (A i)) + bnV (A i) 2) + bnV (A i) 10) + bnV (A i) 35) + shB (crd (A i))
def rkV (M : Mm) (k q : Int) : Int := if q < M 39 k then M 38 (k * 3 + q) else -1
def dgRk (M : Mm) : Nat → Int → Int
  | 0, h => h
  | i + 1, h => dg1 (rkV M i) 3 (dgRk M i h)
theorem Rp.bv {M : Mm} {k : Nat} {S : PS} (h : Rp M (aC k) S) {n : Nat} (hn : 0 < n) (hk : k ≤ n) {a b : Int} (ha : lit a) (hb : lit b) : bndV M n k a b = bnV S (a * 6 + b) ∧ -1000 ≤ bnV S (a * 6 + b) ∧ bnV S (a * 6 + b) ≤ 1000 := by
  have e : bndV M n k a b = bnV S (a * 6 + b) := by
    unfold bndV bnV
    rw [if_neg (by omega), if_neg (by omega), Int.toNat_natCast]
    by_cases h0 : M (aC k) 1 = 1
    · rw [if_pos h0, if_pos (h.em.mp h0)]
    · rw [if_neg h0, if_neg (fun z => h0 (h.em.mpr z)), h.bn (by have := h.e01; omega) (by omega) (by omega)]
  refine ⟨e, ?_⟩
  unfold bnV
  by_cases h0 : ∀ p, ¬ S p
  · rw [if_pos h0]; omega
  · rw [if_neg h0]
    have := bnF_rng (N := S) (fun p hp => h.inP hp) (Classical.byContradiction fun z => h0 (fun p hp => z ⟨p, hp⟩)) (j := a * 6 + b) (by omega) (by omega)
    omega
theorem shB_of {S : PS} {k : Nat} {M : Mm} (h : Rp M (aC k) S) : shB (cntF M (aC k)) = shB (crd S) := by rw [h.cnt]
theorem stpV_rng {M : Mm} {n : Nat} (hC : CI M n) (A : Nat → PS) {k : Nat} (hk : k < n) (w : Int) : -5000 ≤ stpV M A k w ∧ stpV M A k w ≤ 5000 := by
  have h6 := hC.n6
  have s0 := hC.sn0
  have s1 := hC.sn1
  have hb := hC.b9 k (by omega) (by omega)
  simp only [Nat.reduceAdd] at hb
  have hso := soS_rng (fs := M 41) (fo := M 42) (st := k) (M 40 2).toNat (fun j a b => (hC.snr j a (by omega)).1)
  have hq : -1 ≤ qfV (soS (M 41) (M 42) k (M 40 2).toNat) ∧ qfV (soS (M 41) (M 42) k (M 40 2).toNat) ≤ 4 := by
    have := qfS_rng hso.1 hso.2 4 (by omega)
    unfold qfV
    split <;> omega
  have d1 := b01_rng (∀ p, ¬ A (k : Int).toNat p)
  have d2 := b01_rng ((∃ p, A k p) ∧ ∀ p, ¬ A (k + 1) p)
  have d3 : idleV (M 10) A k = 0 ∨ idleV (M 10) A k = 1 := b01_rng _
  have d1' : deadV A k = 0 ∨ deadV A k = 1 := d1
  unfold stpV
  repeat' split
  all_goals omega
theorem sum01 {f : Int → Int} {n : Nat} (h : ∀ i : Nat, f i = 0 ∨ f i = 1) : 0 ≤ sumS f n ∧ sumS f n ≤ n := sumS_rng n (fun i _ => h i)
theorem cntV_rng {M : Mm} {n : Nat} (hC : CI M n) (A : Nat → PS) (w : Int) : -500000 ≤ cntV M n A w ∧ cntV M n A w ≤ 500000 := by
  have h6 := hC.n6
  have c1 := nlp_bd (M 10) n
  have c2 : 0 ≤ M 14 5 ∧ M 14 5 ≤ 240 := by
    by_cases h0 : n = 0
    · rw [hC.r0 h0]; omega
    · obtain ⟨B, r, -, e, q, -⟩ := hC.rn (by omega)
      rw [e]; exact q
  have c3 := sum01 (n := n) (f := deadV A) (fun i => b01_rng _)
  have c4 := sum01 (n := n) (f := idleV (M 10) A) (fun i => b01_rng _)
  have c5 := crd_rng (A n)
  have k0 := hC.rk 0 (by omega) (by omega)
  have k1 := hC.rk 1 (by omega) (by omega)
  have k2 := hC.rk 2 (by omega) (by omega)
  have k3 := hC.rk 3 (by omega) (by omega)
  have k4 := hC.rk 4 (by omega) (by omega)
  have c6 : sumS (M 39) 5 = M 39 0 + M 39 1 + M 39 2 + M 39 3 + M 39 4 := by simp [sumS]
  have := hC.sn0
  have := hC.sn1
  have := hC.pg0
  have := hC.pg1
  have := hC.rdg
  unfold cntV
  repeat' split
  all_goals omega
theorem Pc.sv {M M' : Mm} {n : Nat} (h : Pc M M' n) (A : Nat → PS) (k : Nat) (w : Int) : stpV M' A k w = stpV M A k w := by
  unfold stpV; rw [h.1 10 (by decide), h.1 11 (by decide), h.1 12 (by decide), h.1 13 (by decide), h.1 40 (by decide), h.1 41 (by decide), h.1 42 (by decide)]
theorem Pc.cv {M M' : Mm} {n : Nat} (h : Pc M M' n) (A : Nat → PS) (w : Int) : cntV M' n A w = cntV M n A w := by
  unfold cntV; rw [h.1 10 (by decide), h.1 14 (by decide), h.1 39 (by decide), h.1 40 (by decide), h.1 1 (by decide), h.1 0 (by decide)]
theorem c_dgSt {n : Nat} {z : Int} (M : Mm) (hC : CI M n) {A : Nat → PS} (hA : 0 < n → ∀ q, q ≤ n → Rp M (aC q) (A q)) : Cm mX8_digestOfSteps [vR 0, vL z] M (fun r M' => r = some (vL (dgSt M A n z)) ∧ M' = M) := by
  have hs := hC.sz
  have h6 := hC.n6
  refine cm_of (by decide +kernel) (fun _ => trivial) (Nat.le_of_ble_eq_true rfl) ?_
  refine ev_lload_n dX8_digestOfSteps_0 rfl ?_
  refine ev_lstore_n dX8_digestOfSteps_1 (by decide) ?_
  refine ev_iconst dX8_digestOfSteps_2 ?_
  refine ev_istore dX8_digestOfSteps_3 (by decide) ?_
  refine ev_to (L' := [some (vR 0), none, none, some (vL (dgSt M A (0 : Nat) z)), none, some (vI ((0 : Nat) : Int)), none]) (S' := []) (M' := M) (k' := 0) (n' := 0) ?_ (by repeat (first | exact trivial | refine ⟨rfl, ?_⟩)) rfl rfl rfl rfl
  refine up_loop (P := fun i => Ev mX8_digestOfSteps 5 [some (vR 0), none, none, some (vL (dgSt M A i z)), none, some (vI (i : Int)), none] [] KK (M) PP 0 0 _) n ?_ ?_
  · refine ev_iload dX8_digestOfSteps_5 rfl ?_
    first | refine ev_aload_n dX8_digestOfSteps_7 rfl ?_ | refine ev_aloadX_n dX8_digestOfSteps_7 rfl ?_
    refine ev_getR dX8_digestOfSteps_8 fX8_26 rfl (by first | rfl | assumption) (by first | rfl | assumption) ?_
    refine ev_gI 4 dX8_digestOfSteps_11 fX8_105 rfl (by first | rfl | assumption) rfl ?_
    refine ev_icmp_ge (tgt := 55) dX8_digestOfSteps_14 (by decide) (by omega) (by omega) (fun hb14 => ?_) (fun hb14 => ?_)
    · refine ev_lload_n dX8_digestOfSteps_55 rfl ?_
      exact ev_lreturn dX8_digestOfSteps_56 rfl (rz ⟨rfl, rfl⟩)
    · omega
  · intro i hi hP
    simp only [dgSt] at hP
    refine ev_iload dX8_digestOfSteps_5 rfl ?_
    first | refine ev_aload_n dX8_digestOfSteps_7 rfl ?_ | refine ev_aloadX_n dX8_digestOfSteps_7 rfl ?_
    refine ev_getR dX8_digestOfSteps_8 fX8_26 rfl (by first | rfl | assumption) (by first | rfl | assumption) ?_
    refine ev_gI 4 dX8_digestOfSteps_11 fX8_105 rfl (by first | rfl | assumption) rfl ?_
    refine ev_icmp_ge (tgt := 55) dX8_digestOfSteps_14 (by decide) (by omega) (by omega) (fun h => ?_) (fun h => ?_)
    · omega
    refine ev_iconst dX8_digestOfSteps_17 ?_
    refine ev_istore dX8_digestOfSteps_18 (by decide) ?_
    generalize dgSt M A i z = z1 at *
    refine ev_to (L' := [some (vR 0), none, none, some (vL (dg1 (stpV M A i) 0 z1)), none, some (vI (i : Int)), some (vI ((0 : Nat) : Int))]) (S' := []) (M' := M) (k' := 0) (n' := 0) ?_ (by repeat (first | exact trivial | refine ⟨rfl, ?_⟩)) rfl rfl rfl rfl
    refine up_loop (P := fun w => Ev mX8_digestOfSteps 20 [some (vR 0), none, none, some (vL (dg1 (stpV M A i) w z1)), none, some (vI (i : Int)), some (vI (w : Int))] [] KK M PP 0 0 _) 9 ?_ ?_
    · refine ev_iload dX8_digestOfSteps_20 rfl ?_
      refine ev_bipush dX8_digestOfSteps_22 ?_
      refine ev_icmp_ge (tgt := 49) dX8_digestOfSteps_24 (by decide) (by omega) (by omega) (fun hb24 => ?_) (fun hb24 => ?_)
      · refine ev_iinc dX8_digestOfSteps_49 rfl (by decide) ?_
        refine ev_goto (tgt := 5) dX8_digestOfSteps_52 (by decide) ?_
        exact ev_to hP (by repeat (first | exact trivial | refine ⟨rfl, ?_⟩)) rfl rfl rfl rfl
      · omega
    · intro w hw hQ
      simp only [dg1] at hQ
      refine ev_iload dX8_digestOfSteps_20 rfl ?_
      refine ev_bipush dX8_digestOfSteps_22 ?_
      refine ev_icmp_ge (tgt := 49) dX8_digestOfSteps_24 (by decide) (by omega) (by omega) (fun hb24 => ?_) (fun hb24 => ?_)
      · omega
      · refine ev_ldc2 (z := 31) dX8_digestOfSteps_27 jX8_265 (by decide) ?_
        refine ev_lload_n dX8_digestOfSteps_30 rfl ?_
        refine ev_lmul dX8_digestOfSteps_31 ?_
        first | refine ev_aload_n dX8_digestOfSteps_32 rfl ?_ | refine ev_aloadX_n dX8_digestOfSteps_32 rfl ?_
        refine ev_iload dX8_digestOfSteps_33 rfl ?_
        refine ev_iload dX8_digestOfSteps_35 rfl ?_
        refine ev_callv (ci := 8) (c_step (by omega) (by omega) M hC hA) dX8_digestOfSteps_37 tX8_step.1 kX8_276 tX8_step.2.1 tX8_step.2.2.1 rfl (by first | rfl | assumption) tX8_step.2.2.2 ⟨⟨Nat.le_of_ble_eq_true rfl, Nat.le_of_ble_eq_true rfl⟩, Nat.le_of_ble_eq_true rfl, Nat.le_of_ble_eq_true rfl⟩ rfl (Nat.le_of_ble_eq_true rfl) ?_
        rintro r K' M' P' ⟨rfl, rfl, hM', q⟩
        rw [hM']
        clear hM' M'
        rcases q with ⟨q, -⟩ | ⟨k, q1, q2, rfl⟩
        · omega
        have hki : k = i := by omega
        subst hki
        have hrg := stpV_rng hC A hi (w : Int)
        refine ev_i2l dX8_digestOfSteps_40 (by omega) ?_
        refine ev_ladd dX8_digestOfSteps_41 ?_
        refine ev_lstore_n dX8_digestOfSteps_42 (by decide) ?_
        refine ev_iinc dX8_digestOfSteps_43 rfl (by decide) ?_
        refine ev_goto (tgt := 20) dX8_digestOfSteps_46 (by decide) ?_
        exact ev_to hQ (by repeat (first | exact trivial | refine ⟨rfl, ?_⟩)) rfl rfl rfl rfl
theorem dgSh_b {n k : Nat} (hn : 0 < n) (hk : k ≤ n) {z : Int} {M : Mm} (hC : CI M n) {S : PS} (hR : Rp M (aC k) S) {Φ : Ps} (hP : Ev mX8_digestOfShapes 17 [some (vR 0), none, none, some (vL (31 * (31 * (31 * z + bnV S 10) + bnV S 35) + shB (crd S))), none, some (vI ((k + 1 : Nat) : Int))] [] KK (rwc M 16 (up1 (M 16) k (cntF M (aC k)))) PP 0 0 Φ) : Ev mX8_digestOfShapes 59 [some (vR 0), none, none, some (vL z), none, some (vI (k : Int))] [] KK M PP 0 0 Φ := by
  have hcn := hR.cnt
  have b2 := hR.bv hn hk (a := 1) (b := 4) (by omega) (by omega)
  have b3 := hR.bv hn hk (a := 5) (b := 5) (by omega) (by omega)
  have hki : inR (k : Int) := by have := hC.n6; omega
  have ha1 := c_bound (x := (k : Int)) (a := 1) (b := 4) hki (by decide) (by decide) M hC
  have ha2 := c_bound (x := (k : Int)) (a := 5) (b := 5) hki (by decide) (by decide) M hC
  rw [b2.1] at ha1
  rw [b3.1] at ha2
  simp only [Int.reduceMul, Int.reduceAdd] at b2 b3 ha1 ha2
  have hc3 := c_share (x := (k : Int)) hki M hC
  have r2 : inR (bnV S 10) := by omega
  have r3 : inR (bnV S 35) := by omega
  clear b2 b3
  refine ev_ldc2 (z := 31) dX8_digestOfShapes_59 jX8_265 (by decide) ?_
  refine ev_lload_n dX8_digestOfShapes_62 rfl ?_
  refine ev_lmul dX8_digestOfShapes_63 ?_
  first | refine ev_aload_n dX8_digestOfShapes_64 rfl ?_ | refine ev_aloadX_n dX8_digestOfShapes_64 rfl ?_
  refine ev_iload dX8_digestOfShapes_65 rfl ?_
  refine ev_iconst dX8_digestOfShapes_67 ?_
  refine ev_iconst dX8_digestOfShapes_68 ?_
  refine ev_callv (ci := 8) ha1 dX8_digestOfShapes_69 tX8_bound.1 kX8_282 tX8_bound.2.1 tX8_bound.2.2.1 rfl (by first | rfl | assumption) tX8_bound.2.2.2 ⟨⟨Nat.le_of_ble_eq_true rfl, Nat.le_of_ble_eq_true rfl⟩, Nat.le_of_ble_eq_true rfl, Nat.le_of_ble_eq_true rfl⟩ rfl (Nat.le_of_ble_eq_true rfl) ?_
  rintro r K' M' P' ⟨rfl, rfl, rfl, hM'⟩
  rw [hM']
  clear hM' M'
  refine ev_i2l dX8_digestOfShapes_72 r2 ?_
  refine ev_ladd dX8_digestOfShapes_73 ?_
  refine ev_lstore_n dX8_digestOfShapes_74 (by decide) ?_
  refine ev_ldc2 (z := 31) dX8_digestOfShapes_75 jX8_265 (by decide) ?_
  refine ev_lload_n dX8_digestOfShapes_78 rfl ?_
  refine ev_lmul dX8_digestOfShapes_79 ?_
  first | refine ev_aload_n dX8_digestOfShapes_80 rfl ?_ | refine ev_aloadX_n dX8_digestOfShapes_80 rfl ?_
  refine ev_iload dX8_digestOfShapes_81 rfl ?_
  refine ev_iconst dX8_digestOfShapes_83 ?_
  refine ev_iconst dX8_digestOfShapes_84 ?_
  refine ev_callv (ci := 8) ha2 dX8_digestOfShapes_85 tX8_bound.1 kX8_282 tX8_bound.2.1 tX8_bound.2.2.1 rfl (by first | rfl | assumption) tX8_bound.2.2.2 ⟨⟨Nat.le_of_ble_eq_true rfl, Nat.le_of_ble_eq_true rfl⟩, Nat.le_of_ble_eq_true rfl, Nat.le_of_ble_eq_true rfl⟩ rfl (Nat.le_of_ble_eq_true rfl) ?_
  rintro r K' M' P' ⟨rfl, rfl, rfl, hM'⟩
  rw [hM']
  clear hM' M'
  refine ev_i2l dX8_digestOfShapes_88 r3 ?_
  refine ev_ladd dX8_digestOfShapes_89 ?_
  refine ev_lstore_n dX8_digestOfShapes_90 (by decide) ?_
  refine ev_ldc2 (z := 31) dX8_digestOfShapes_91 jX8_265 (by decide) ?_
  refine ev_lload_n dX8_digestOfShapes_94 rfl ?_
  refine ev_lmul dX8_digestOfShapes_95 ?_
  first | refine ev_aload_n dX8_digestOfShapes_96 rfl ?_ | refine ev_aloadX_n dX8_digestOfShapes_96 rfl ?_
  refine ev_iload dX8_digestOfShapes_97 rfl ?_
  refine ev_callv (ci := 8) hc3 dX8_digestOfShapes_99 tX8_share.1 kX8_286 tX8_share.2.1 tX8_share.2.2.1 rfl (by first | rfl | assumption) tX8_share.2.2.2 ⟨⟨Nat.le_of_ble_eq_true rfl, Nat.le_of_ble_eq_true rfl⟩, Nat.le_of_ble_eq_true rfl, Nat.le_of_ble_eq_true rfl⟩ rfl (Nat.le_of_ble_eq_true rfl) ?_
  rintro r K' M8 P' ⟨rfl, rfl, q⟩
  rcases q with ⟨q, -⟩ | ⟨k', q1, q2, q3, rfl, hM8⟩
  · omega
  have hki : k' = k := by omega
  subst hki
  rw [hM8]
  rw [hcn] at hP ⊢
  clear hM8 M8
  refine ev_ladd dX8_digestOfShapes_102 ?_
  refine ev_lstore_n dX8_digestOfShapes_103 (by decide) ?_
  refine ev_iinc dX8_digestOfShapes_104 rfl (by decide) ?_
  refine ev_goto (tgt := 17) dX8_digestOfShapes_107 (by decide) ?_
  exact ev_to hP (by repeat (first | exact trivial | refine ⟨rfl, ?_⟩)) rfl rfl rfl rfl
theorem dgSh_a {n k : Nat} (hn : 0 < n) (hk : k ≤ n) {z : Int} {M M2 : Mm} (hC : CI M n) (hM2 : M2 = rwc M 16 (up1 (M 16) k (cntF M (aC k)))) {S : PS} (hR : Rp M (aC k) S) {Φ : Ps} (hP : Ev mX8_digestOfShapes 17 [some (vR 0), none, none, some (vL (31 * (31 * (31 * (31 * (31 * z + crd S) + bnV S 2) + bnV S 10) + bnV S 35) + shB (crd S))), none, some (vI ((k + 1 : Nat) : Int))] [] KK (rwc M2 16 (up1 (M2 16) k (cntF M2 (aC k)))) PP 0 0 Φ) : Ev mX8_digestOfShapes 29 [some (vR 0), none, none, some (vL z), none, some (vI (k : Int))] [] KK M PP 0 0 Φ := by
  have hki : inR (k : Int) := by have := hC.n6; omega
  have hp : Pc M M2 n := by rw [hM2]; exact Pc.pt hC
  have hC2 := hp.ci hC
  have hR2 := hp.rp hR
  have nx := dgSh_b hn hk hC2 hR2 hP
  have b1 := hR2.bv hn hk (a := 0) (b := 2) (by omega) (by omega)
  have ha1 := c_bound (x := (k : Int)) (a := 0) (b := 2) hki (by decide) (by decide) M2 hC2
  rw [b1.1] at ha1
  simp only [Int.reduceMul, Int.reduceAdd] at b1 ha1
  have hc := c_points (x := (k : Int)) hki M hC
  have r1 : inR (bnV S 2) := by omega
  have r0 : inR (crd S) := by have := crd_rng S; omega
  have hcn := hR.cnt
  clear b1 hP hp
  refine ev_ldc2 (z := 31) dX8_digestOfShapes_29 jX8_265 (by decide) ?_
  refine ev_lload_n dX8_digestOfShapes_32 rfl ?_
  refine ev_lmul dX8_digestOfShapes_33 ?_
  first | refine ev_aload_n dX8_digestOfShapes_34 rfl ?_ | refine ev_aloadX_n dX8_digestOfShapes_34 rfl ?_
  refine ev_iload dX8_digestOfShapes_35 rfl ?_
  refine ev_callv (ci := 8) hc dX8_digestOfShapes_37 tX8_points.1 kX8_279 tX8_points.2.1 tX8_points.2.2.1 rfl (by first | rfl | assumption) tX8_points.2.2.2 ⟨⟨Nat.le_of_ble_eq_true rfl, Nat.le_of_ble_eq_true rfl⟩, Nat.le_of_ble_eq_true rfl, Nat.le_of_ble_eq_true rfl⟩ rfl (Nat.le_of_ble_eq_true rfl) ?_
  rintro r K' M8 P' ⟨rfl, rfl, q⟩
  rcases q with ⟨q, -⟩ | ⟨k', q1, q2, q3, rfl, hM8⟩
  · omega
  have hki : k' = k := by omega
  subst hki
  rw [← hM2] at hM8
  rw [hM8, hcn]
  clear hM8 M8
  refine ev_i2l dX8_digestOfShapes_40 r0 ?_
  refine ev_ladd dX8_digestOfShapes_41 ?_
  refine ev_lstore_n dX8_digestOfShapes_42 (by decide) ?_
  refine ev_ldc2 (z := 31) dX8_digestOfShapes_43 jX8_265 (by decide) ?_
  refine ev_lload_n dX8_digestOfShapes_46 rfl ?_
  refine ev_lmul dX8_digestOfShapes_47 ?_
  first | refine ev_aload_n dX8_digestOfShapes_48 rfl ?_ | refine ev_aloadX_n dX8_digestOfShapes_48 rfl ?_
  refine ev_iload dX8_digestOfShapes_49 rfl ?_
  refine ev_iconst dX8_digestOfShapes_51 ?_
  refine ev_iconst dX8_digestOfShapes_52 ?_
  refine ev_callv (ci := 8) ha1 dX8_digestOfShapes_53 tX8_bound.1 kX8_282 tX8_bound.2.1 tX8_bound.2.2.1 rfl (by first | rfl | assumption) tX8_bound.2.2.2 ⟨⟨Nat.le_of_ble_eq_true rfl, Nat.le_of_ble_eq_true rfl⟩, Nat.le_of_ble_eq_true rfl, Nat.le_of_ble_eq_true rfl⟩ rfl (Nat.le_of_ble_eq_true rfl) ?_
  rintro r K' M' P' ⟨rfl, rfl, rfl, hM'⟩
  rw [hM']
  clear hM' M'
  refine ev_i2l dX8_digestOfShapes_56 r1 ?_
  refine ev_ladd dX8_digestOfShapes_57 ?_
  refine ev_lstore_n dX8_digestOfShapes_58 (by decide) ?_
  exact ev_to nx (by repeat (first | exact trivial | refine ⟨rfl, ?_⟩)) rfl rfl rfl rfl
theorem c_dgSh {n : Nat} {z : Int} (M : Mm) (hC : CI M n) {A : Nat → PS} (hA : 0 < n → ∀ q, q ≤ n → Rp M (aC q) (A q)) : Cm mX8_digestOfShapes [vR 0, vL z] M (fun r M' => r = some (vL (if n = 0 then z else dgSh A (n + 1) z)) ∧ Pc M M' n) := by
  have hs := hC.sz
  have h6 := hC.n6
  refine cm_of (by decide +kernel) (fun _ => trivial) (Nat.le_of_ble_eq_true rfl) ?_
  first | refine ev_aload_n dX8_digestOfShapes_0 rfl ?_ | refine ev_aloadX_n dX8_digestOfShapes_0 rfl ?_
  refine ev_getR dX8_digestOfShapes_1 fX8_26 rfl (by first | rfl | assumption) (by first | rfl | assumption) ?_
  refine ev_gI 4 dX8_digestOfShapes_4 fX8_105 rfl (by first | rfl | assumption) rfl ?_
  refine ev_if_ne (tgt := 12) dX8_digestOfShapes_7 (by decide) (by omega) (fun h0 => ?_) (fun h0 => ?_)
  case refine_2 =>
    refine ev_lload_n dX8_digestOfShapes_10 rfl ?_
    exact ev_lreturn dX8_digestOfShapes_11 rfl (rz ⟨by rw [if_pos (by omega)], Pc.rf hC⟩)
  have hn : 0 < n := by omega
  rw [if_neg (by omega)]
  refine ev_lload_n dX8_digestOfShapes_12 rfl ?_
  refine ev_lstore_n dX8_digestOfShapes_13 (by decide) ?_
  refine ev_iconst dX8_digestOfShapes_14 ?_
  refine ev_istore dX8_digestOfShapes_15 (by decide) ?_
  have key : ∀ M', Pc M M' n → Ev mX8_digestOfShapes 17 [some (vR 0), none, none, some (vL (dgSh A 0 z)), none, some (vI ((0 : Nat) : Int))] [] KK M' PP 0 0 (Rz mX8_digestOfShapes (fun r M' => r = some (vL (dgSh A (n + 1) z)) ∧ Pc M M' n)) := by
    refine up_loop (P := fun i => ∀ M', Pc M M' n → Ev mX8_digestOfShapes 17 [some (vR 0), none, none, some (vL (dgSh A i z)), none, some (vI (i : Int))] [] KK M' PP 0 0 _) (n + 1) ?_ ?_
    · intro M' hp
      have hs' : M' 9 4 = n := by rw [hp.1 9 (by decide)]; exact hs
      refine ev_iload dX8_digestOfShapes_17 rfl ?_
      first | refine ev_aload_n dX8_digestOfShapes_19 rfl ?_ | refine ev_aloadX_n dX8_digestOfShapes_19 rfl ?_
      refine ev_getR dX8_digestOfShapes_20 fX8_26 rfl (by first | rfl | assumption) (by first | rfl | assumption) ?_
      refine ev_gI 4 dX8_digestOfShapes_23 fX8_105 rfl (by first | rfl | assumption) rfl ?_
      refine ev_icmp_gt (tgt := 110) dX8_digestOfShapes_26 (by decide) (by omega) (by omega) (fun hb26 => ?_) (fun hb26 => ?_)
      · refine ev_lload_n dX8_digestOfShapes_110 rfl ?_
        exact ev_lreturn dX8_digestOfShapes_111 rfl (rz ⟨rfl, hp⟩)
      · omega
    · intro i hi hP M' hp
      have hs' : M' 9 4 = n := by rw [hp.1 9 (by decide)]; exact hs
      have hC' := hp.ci hC
      have hR' := hp.rp (hA hn i (by omega))
      have hpp := hp.tr (Pc.pt hC' (k := i))
      have hp3 := hpp.tr (Pc.pt (hpp.ci hC) (k := i))
      have hP2 := hP _ hp3
      simp only [dgSh] at hP2
      have nx := dgSh_a hn (show i ≤ n by omega) hC' rfl hR' hP2
      refine ev_iload dX8_digestOfShapes_17 rfl ?_
      first | refine ev_aload_n dX8_digestOfShapes_19 rfl ?_ | refine ev_aloadX_n dX8_digestOfShapes_19 rfl ?_
      refine ev_getR dX8_digestOfShapes_20 fX8_26 rfl (by first | rfl | assumption) (by first | rfl | assumption) ?_
      refine ev_gI 4 dX8_digestOfShapes_23 fX8_105 rfl (by first | rfl | assumption) rfl ?_
      refine ev_icmp_gt (tgt := 110) dX8_digestOfShapes_26 (by decide) (by omega) (by omega) (fun h => ?_) (fun h => ?_)
      · omega
      exact nx
  have kM := key M (Pc.rf hC)
  exact ev_to kM (by repeat (first | exact trivial | refine ⟨rfl, ?_⟩)) rfl rfl rfl rfl
noncomputable def dgV (M : Mm) (n : Nat) (A : Nat → PS) : Int := dg1 (cntV M n A) 10 (dg1 (M 2) (M 1 1).toNat (dgRk M 5 (if n = 0 then dgSt M A n 1447 else dgSh A (n + 1) (dgSt M A n 1447))))
theorem c_digest {n : Nat} (M : Mm) (hC : CI M n) {A : Nat → PS} (hA : 0 < n → ∀ q, q ≤ n → Rp M (aC q) (A q)) : Cm mX8_digest [vR 0] M (fun r M' => r = some (vL (dgV M n A)) ∧ Pc M M' n) := by
  have hs := hC.sz
  have h6 := hC.n6
  have hp0 := hC.pg0
  have hp1 := hC.pg1
  unfold dgV
  generalize hz0 : dgSt M A n 1447 = z0
  refine cm_of (by decide +kernel) (fun _ => trivial) (Nat.le_of_ble_eq_true rfl) ?_
  first | refine ev_aload_n dX8_digest_0 rfl ?_ | refine ev_aloadX_n dX8_digest_0 rfl ?_
  first | refine ev_aload_n dX8_digest_1 rfl ?_ | refine ev_aloadX_n dX8_digest_1 rfl ?_
  refine ev_ldc2 (z := 1447) dX8_digest_2 jX8_256 (by decide) ?_
  refine ev_callv (ci := 8) (c_dgSt M hC hA) dX8_digest_5 tX8_digestOfSteps.1 kX8_258 tX8_digestOfSteps.2.1 tX8_digestOfSteps.2.2.1 rfl (by first | rfl | assumption) tX8_digestOfSteps.2.2.2 ⟨⟨Nat.le_of_ble_eq_true rfl, Nat.le_of_ble_eq_true rfl⟩, Nat.le_of_ble_eq_true rfl, Nat.le_of_ble_eq_true rfl⟩ rfl (Nat.le_of_ble_eq_true rfl) ?_
  rintro r K' M' P' ⟨rfl, rfl, rfl, hM'⟩
  rw [hM']
  clear hM' M'
  rw [hz0]
  refine ev_callv (ci := 8) (c_dgSh M hC hA) dX8_digest_8 tX8_digestOfShapes.1 kX8_262 tX8_digestOfShapes.2.1 tX8_digestOfShapes.2.2.1 rfl (by first | rfl | assumption) tX8_digestOfShapes.2.2.2 ⟨⟨Nat.le_of_ble_eq_true rfl, Nat.le_of_ble_eq_true rfl⟩, Nat.le_of_ble_eq_true rfl, Nat.le_of_ble_eq_true rfl⟩ rfl (Nat.le_of_ble_eq_true rfl) ?_
  rintro r K' M1 P' ⟨rfl, rfl, rfl, hp⟩
  generalize (if n = 0 then z0 else dgSh A (n + 1) z0) = z1 at *
  have hC1 := hp.ci hC
  refine ev_lstore_n dX8_digest_11 (by decide) ?_
  refine ev_iconst dX8_digest_12 ?_
  refine ev_istore_n dX8_digest_13 (by decide) ?_
  have eR : ∀ k q, rkV M1 k q = rkV M k q := fun k q => by unfold rkV; rw [hp.1 38 (by decide), hp.1 39 (by decide)]
  refine ev_to (L' := [some (vR 0), some (vL (dgRk M (0 : Nat) z1)), none, some (vI ((0 : Nat) : Int)), none]) (S' := []) (M' := M1) (k' := 0) (n' := 0) ?_ (by repeat (first | exact trivial | refine ⟨rfl, ?_⟩)) rfl rfl rfl rfl
  refine up_loop (P := fun i => Ev mX8_digest 14 [some (vR 0), some (vL (dgRk M i z1)), none, some (vI (i : Int)), none] [] KK (M1) PP 0 0 _) 5 ?_ ?_
  · generalize dgRk M 5 z1 = z2 at *
    refine ev_iload_n dX8_digest_14 rfl ?_
    refine ev_iconst dX8_digest_15 ?_
    refine ev_icmp_ge (tgt := 55) dX8_digest_16 (by decide) (by omega) (by omega) (fun h => ?_) (fun h => ?_)
    case refine_2 => omega
    refine ev_iconst dX8_digest_55 ?_
    refine ev_istore_n dX8_digest_56 (by decide) ?_
    have e1 : M1 1 1 = ((M 1 1).toNat : Int) := by rw [hp.1 1 (by decide)]; omega
    have e2 : M1 2 = M 2 := hp.1 2 (by decide)
    refine ev_to (L' := [some (vR 0), some (vL (dg1 (M 2) (0 : Nat) z2)), none, some (vI ((0 : Nat) : Int)), none]) (S' := []) (M' := M1) (k' := 0) (n' := 0) ?_ (by repeat (first | exact trivial | refine ⟨rfl, ?_⟩)) rfl rfl rfl rfl
    refine up_loop (P := fun i => Ev mX8_digest 57 [some (vR 0), some (vL (dg1 (M 2) i z2)), none, some (vI (i : Int)), none] [] KK (M1) PP 0 0 _) (M 1 1).toNat ?_ ?_
    · generalize dg1 (M 2) (M 1 1).toNat z2 = z3 at *
      refine ev_iload_n dX8_digest_57 rfl ?_
      first | refine ev_aload_n dX8_digest_58 rfl ?_ | refine ev_aloadX_n dX8_digest_58 rfl ?_
      refine ev_getR dX8_digest_59 fX8_10 rfl (by first | rfl | assumption) (by first | rfl | assumption) ?_
      refine ev_gI 1 dX8_digest_62 fX8_79 rfl (by first | rfl | assumption) rfl ?_
      refine ev_icmp_ge (tgt := 91) dX8_digest_65 (by decide) (by omega) (by omega) (fun h => ?_) (fun h => ?_)
      case refine_2 => omega
      refine ev_iconst dX8_digest_91 ?_
      refine ev_istore_n dX8_digest_92 (by decide) ?_
      have key : ∀ M', Pc M M' n → Ev mX8_digest 93 [some (vR 0), some (vL (dg1 (cntV M n A) 0 z3)), none, some (vI ((0 : Nat) : Int)), none] [] KK M' PP 0 0 (Rz mX8_digest (fun r M' => r = some (vL (dg1 (cntV M n A) 10 z3)) ∧ Pc M M' n)) := by
        refine up_loop (P := fun i => ∀ M', Pc M M' n → Ev mX8_digest 93 [some (vR 0), some (vL (dg1 (cntV M n A) i z3)), none, some (vI (i : Int)), none] [] KK M' PP 0 0 _) 10 ?_ ?_
        · intro M' hp
          refine ev_iload_n dX8_digest_93 rfl ?_
          refine ev_bipush dX8_digest_94 ?_
          refine ev_icmp_ge (tgt := 118) dX8_digest_96 (by decide) (by omega) (by omega) (fun hb96 => ?_) (fun hb96 => ?_)
          · refine ev_lload_n dX8_digest_118 rfl ?_
            exact ev_lreturn dX8_digest_119 rfl (rz ⟨rfl, hp⟩)
          · omega
        · intro i hi hP M' hp
          have hC' := hp.ci hC
          have hcr := cntV_rng hC A (i : Int)
          simp only [dg1] at hP
          refine ev_iload_n dX8_digest_93 rfl ?_
          refine ev_bipush dX8_digest_94 ?_
          refine ev_icmp_ge (tgt := 118) dX8_digest_96 (by decide) (by omega) (by omega) (fun hb96 => ?_) (fun hb96 => ?_)
          · omega
          · refine ev_ldc2 (z := 31) dX8_digest_99 jX8_265 (by decide) ?_
            refine ev_lload_n dX8_digest_102 rfl ?_
            refine ev_lmul dX8_digest_103 ?_
            first | refine ev_aload_n dX8_digest_104 rfl ?_ | refine ev_aloadX_n dX8_digest_104 rfl ?_
            refine ev_iload_n dX8_digest_105 rfl ?_
            refine ev_callv (ci := 8) (c_count (by omega) M' hC' (fun hn q hq => hp.rp (hA hn q hq))) dX8_digest_106 tX8_count.1 kX8_273 tX8_count.2.1 tX8_count.2.2.1 rfl (by first | rfl | assumption) tX8_count.2.2.2 ⟨⟨Nat.le_of_ble_eq_true rfl, Nat.le_of_ble_eq_true rfl⟩, Nat.le_of_ble_eq_true rfl, Nat.le_of_ble_eq_true rfl⟩ rfl (Nat.le_of_ble_eq_true rfl) ?_
            rintro r K' M8 P' ⟨rfl, rfl, rfl, hp8⟩
            rw [hp.cv]
            refine ev_i2l dX8_digest_109 (by omega) ?_
            refine ev_ladd dX8_digest_110 ?_
            refine ev_lstore_n dX8_digest_111 (by decide) ?_
            refine ev_iinc dX8_digest_112 rfl (by decide) ?_
            refine ev_goto (tgt := 93) dX8_digest_115 (by decide) ?_
            have hP2 := hP M8 (hp.tr hp8)
            exact ev_to hP2 (by repeat (first | exact trivial | refine ⟨rfl, ?_⟩)) rfl rfl rfl rfl
      have kM := key M1 hp
      exact ev_to kM (by repeat (first | exact trivial | refine ⟨rfl, ?_⟩)) rfl rfl rfl rfl
    · intro i hi hP
      have hl := hC.pgl i (by omega) (by omega)
      simp only [dg1] at hP
      refine ev_iload_n dX8_digest_57 rfl ?_
      first | refine ev_aload_n dX8_digest_58 rfl ?_ | refine ev_aloadX_n dX8_digest_58 rfl ?_
      refine ev_getR dX8_digest_59 fX8_10 rfl (by first | rfl | assumption) (by first | rfl | assumption) ?_
      refine ev_gI 1 dX8_digest_62 fX8_79 rfl (by first | rfl | assumption) rfl ?_
      refine ev_icmp_ge (tgt := 91) dX8_digest_65 (by decide) (by omega) (by omega) (fun hb65 => ?_) (fun hb65 => ?_)
      · omega
      · refine ev_ldc2 (z := 31) dX8_digest_68 jX8_265 (by decide) ?_
        refine ev_lload_n dX8_digest_71 rfl ?_
        refine ev_lmul dX8_digest_72 ?_
        first | refine ev_aload_n dX8_digest_73 rfl ?_ | refine ev_aloadX_n dX8_digest_73 rfl ?_
        refine ev_getR dX8_digest_74 fX8_10 rfl (by first | rfl | assumption) (by first | rfl | assumption) ?_
        refine ev_getR dX8_digest_77 fX8_270 rfl (by first | rfl | assumption) (by first | rfl | assumption) ?_
        refine ev_iload_n dX8_digest_80 rfl ?_
        refine ev_iaload dX8_digest_81 (by first | rfl | assumption) (by omega) (by omega) (by decide) ?_
        rw [e2]
        refine ev_i2l dX8_digest_82 (by omega) ?_
        refine ev_ladd dX8_digest_83 ?_
        refine ev_lstore_n dX8_digest_84 (by decide) ?_
        refine ev_iinc dX8_digest_85 rfl (by decide) ?_
        refine ev_goto (tgt := 57) dX8_digest_88 (by decide) ?_
        exact ev_to hP (by repeat (first | exact trivial | refine ⟨rfl, ?_⟩)) rfl rfl rfl rfl
  · intro i hi hP
    simp only [dgRk] at hP
    refine ev_iload_n dX8_digest_14 rfl ?_
    refine ev_iconst dX8_digest_15 ?_
    refine ev_icmp_ge (tgt := 55) dX8_digest_16 (by decide) (by omega) (by omega) (fun h => ?_) (fun h => ?_)
    · omega
    refine ev_iconst dX8_digest_19 ?_
    refine ev_istore dX8_digest_20 (by decide) ?_
    generalize dgRk M i z1 = z2 at *
    have hrk := hC.rk i (by omega) (by omega)
    refine ev_to (L' := [some (vR 0), some (vL (dg1 (rkV M i) 0 z2)), none, some (vI (i : Int)), some (vI ((0 : Nat) : Int))]) (S' := []) (M' := M1) (k' := 0) (n' := 0) ?_ (by repeat (first | exact trivial | refine ⟨rfl, ?_⟩)) rfl rfl rfl rfl
    refine up_loop (P := fun w => Ev mX8_digest 22 [some (vR 0), some (vL (dg1 (rkV M i) w z2)), none, some (vI (i : Int)), some (vI (w : Int))] [] KK M1 PP 0 0 _) 3 ?_ ?_
    · refine ev_iload dX8_digest_22 rfl ?_
      refine ev_iconst dX8_digest_24 ?_
      refine ev_icmp_ge (tgt := 49) dX8_digest_25 (by decide) (by omega) (by omega) (fun hb25 => ?_) (fun hb25 => ?_)
      · refine ev_iinc dX8_digest_49 rfl (by decide) ?_
        refine ev_goto (tgt := 14) dX8_digest_52 (by decide) ?_
        exact ev_to hP (by repeat (first | exact trivial | refine ⟨rfl, ?_⟩)) rfl rfl rfl rfl
      · omega
    · intro w hw hQ
      have hb := hC.rkb ((i : Int) * 3 + w) (by omega) (by omega)
      have hr1 : -1000 ≤ rkV M i w ∧ rkV M i w ≤ 1000 := by unfold rkV; split <;> omega
      simp only [dg1] at hQ
      refine ev_iload dX8_digest_22 rfl ?_
      refine ev_iconst dX8_digest_24 ?_
      refine ev_icmp_ge (tgt := 49) dX8_digest_25 (by decide) (by omega) (by omega) (fun hb25 => ?_) (fun hb25 => ?_)
      · omega
      · refine ev_ldc2 (z := 31) dX8_digest_28 jX8_265 (by decide) ?_
        refine ev_lload_n dX8_digest_31 rfl ?_
        refine ev_lmul dX8_digest_32 ?_
        first | refine ev_aload_n dX8_digest_33 rfl ?_ | refine ev_aloadX_n dX8_digest_33 rfl ?_
        refine ev_iload_n dX8_digest_34 rfl ?_
        refine ev_iload dX8_digest_35 rfl ?_
        refine ev_callv (ci := 8) (c_racked (by omega) (by omega) M1 hC1) dX8_digest_37 tX8_racked.1 kX8_267 tX8_racked.2.1 tX8_racked.2.2.1 rfl (by first | rfl | assumption) tX8_racked.2.2.2 ⟨⟨Nat.le_of_ble_eq_true rfl, Nat.le_of_ble_eq_true rfl⟩, Nat.le_of_ble_eq_true rfl, Nat.le_of_ble_eq_true rfl⟩ rfl (Nat.le_of_ble_eq_true rfl) ?_
        rintro r K' M' P' ⟨rfl, rfl, rfl, hM'⟩
        rw [hM']
        clear hM' M'
        rw [if_neg (by omega)]
        rw [show (if (w : Int) < M1 39 i then M1 38 ((i : Int) * 3 + w) else -1) = rkV M i w from eR i w]
        refine ev_i2l dX8_digest_40 (by omega) ?_
        refine ev_ladd dX8_digest_41 ?_
        refine ev_lstore_n dX8_digest_42 (by decide) ?_
        refine ev_iinc dX8_digest_43 rfl (by decide) ?_
        refine ev_goto (tgt := 22) dX8_digest_46 (by decide) ?_
        exact ev_to hQ (by repeat (first | exact trivial | refine ⟨rfl, ?_⟩)) rfl rfl rfl rfl
