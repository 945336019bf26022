/-! ===== the reference: the digest ===== -/
abbrev hsh (X : Mm) (z : Int) : Mm := upM X 54 28 z
theorem hs_hs (X : Mm) (a b : Int) : hsh (hsh X a) b = hsh X b := by
  unfold hsh
  rw [upM_rw (upM X 54 28 a), upM_rw X, upM_rw X, rwc_rwc, rwc_at]
  congr 1
  funext j
  unfold up1
  split <;> rfl
theorem hs_28 (X : Mm) (a : Int) : hsh X a 54 28 = a := upM_s _ _ _ _
theorem hs_54 {X : Mm} {a j : Int} (h : j ≠ 28) : hsh X a 54 j = X 54 j := upM_n (Or.inr h)
theorem hs_o {X : Mm} {a : Int} {q : Nat} (h : q ≠ 54) : hsh X a q = X q := upM_o h
def FrH (M M' : Mm) : Prop := (∀ j, j ≠ 11 → j ≠ 17 → j ≠ 28 → M' 54 j = M 54 j) ∧ ∀ q, q ≠ 54 → q ≠ 58 → q ≠ 60 → q ≠ 61 → q ≠ 62 → q ≠ 63 → M' q = M q
theorem FrH.rf {M : Mm} : FrH M M := ⟨fun _ _ _ _ => rfl, fun _ _ _ _ _ _ _ => rfl⟩
theorem FrH.q {M X Y : Mm} (h : FrH M X) (h2 : FrF X Y) : FrH M Y := ⟨fun j j1 j2 j3 => by rw [h2.1 j j1 j2, h.1 j j1 j2 j3], fun q q1 q2 q3 q4 q5 q6 => by rw [h2.2 q q1 q2 q3 q4 q5 q6, h.2 q q1 q2 q3 q4 q5 q6]⟩
theorem FrH.s {M X : Mm} (h : FrH M X) (z : Int) : FrH M (hsh X z) := ⟨fun j j1 j2 j3 => by rw [hs_54 j3]; exact h.1 j j1 j2 j3, fun q q1 q2 q3 q4 q5 q6 => by rw [hs_o q1]; exact h.2 q q1 q2 q3 q4 q5 q6⟩
theorem FrH.p {M X : Mm} (h : FrH M X) : X 57 = M 57 := h.2 57 (by decide) (by decide) (by decide) (by decide) (by decide) (by decide)
theorem mFS.hs {X : Mm} {n : Nat} (h : mFS X n) (z : Int) : mFS (hsh X z) n := by
  obtain ⟨A, r, h1, h2, h3, h4, h5⟩ := h
  refine ⟨A, r, by rw [hs_o (by decide)]; exact h1, by rw [hs_54 (by decide)]; exact h2, h3, h4, fun q hq => ?_⟩
  rw [hs_o (by decide), hs_o (by decide)]
  exact h5 q hq
theorem mFA.hs {X : Mm} {n : Nat} {A : Nat → PS} {r : Int} (h : mFA X n A r) (z : Int) : mFA (hsh X z) n A r := by
  obtain ⟨h2, h3, h4, h5⟩ := h
  refine ⟨by rw [hs_54 (by decide)]; exact h2, h3, h4, fun q hq => ?_⟩
  rw [hs_o (by decide), hs_o (by decide)]
  exact h5 q hq
theorem KI.hs {X : Mm} {n : Nat} (h : KI X n) (z : Int) : KI (hsh X z) n := by
  apply KI.mk
  case pg0 => rw [hs_54 (by decide)]; exact h.pg0
  case pg1 => rw [hs_54 (by decide)]; exact h.pg1
  case pgl => rw [hs_54 (by decide), hs_o (by decide)]; exact h.pgl
  case sz => rw [hs_54 (by decide)]; exact h.sz
  case n6 => exact h.n6
  case ok => rw [hs_o (by decide)]; exact h.ok
  case bd => rw [hs_o (by decide)]; exact h.bd
  case ol => rw [hs_54 (by decide)]; exact h.ol
  case fr => rw [hs_54 (by decide)]; exact fun a b => (h.fr a b).hs z
  case sg => intro p a; rw [hs_o (by decide)]; exact h.sg p a
  case rkb => rw [hs_o (by decide)]; exact h.rkb
  case sn0 => rw [hs_54 (by decide)]; exact h.sn0
  case sn1 => rw [hs_54 (by decide)]; exact h.sn1
  case snb => rw [hs_o (by decide)]; exact h.snb
  case pr => rw [hs_54 (by decide)]; exact h.pr
  case kp => rw [hs_54 (by decide), hs_54 (by decide)]; exact h.kp
def Kh (M X : Mm) (n : Nat) (h : Int) : Prop := FrH M X ∧ KI X n ∧ X 54 28 = h
theorem Kh.q {M X Y : Mm} {n : Nat} {h : Int} (a : Kh M X n h) (b : Kq X Y n) : Kh M Y n h := ⟨a.1.q b.1, b.2, by rw [b.1.1 28 (by decide) (by decide)]; exact a.2.2⟩
theorem Kh.s {M X : Mm} {n : Nat} {h : Int} (a : Kh M X n h) (z : Int) : Kh M (hsh X z) n z := ⟨a.1.s z, a.2.1.hs z, hs_28 X z⟩
theorem k_say {z : Int} (M : Mm) : Cm mX9_say [vR 54, vL z] M (fun r M' => r = none ∧ M' = hsh M (31 * M 54 28 + z)) := by
  refine cm_of (by decide +kernel) (fun _ => trivial) (Nat.le_of_ble_eq_true rfl) ?_
  first | refine ev_aload_n dX9_say_0 rfl ?_ | refine ev_aloadX_n dX9_say_0 rfl ?_
  refine ev_ldc2 (z := 31) dX9_say_1 jX9_337 (by decide) ?_
  first | refine ev_aload_n dX9_say_4 rfl ?_ | refine ev_aloadX_n dX9_say_4 rfl ?_
  refine ev_gJ 28 dX9_say_5 fX9_339 rfl (by first | rfl | assumption) rfl ?_
  refine ev_lmul dX9_say_8 ?_
  refine ev_lload_n dX9_say_9 rfl ?_
  refine ev_ladd dX9_say_10 ?_
  refine ev_pJ 28 dX9_say_11 sX9_339 rfl (by first | rfl | assumption) rfl ?_
  exact ev_return dX9_say_14 rfl (rz ⟨rfl, rfl⟩)
theorem k_sayH {z h : Int} (X : Mm) : Cm mX9_say [vR 54, vL z] (hsh X h) (fun r M' => r = none ∧ M' = hsh X (31 * h + z)) := by
  refine cm_mono (k_say (z := z) (hsh X h)) ?_
  rintro r M' ⟨h1, h2⟩
  rw [hs_hs, hs_28] at h2
  exact ⟨h1, h2⟩
theorem bnV_rng (S : PS) (j : Int) : -1000 ≤ bnV S j ∧ bnV S j ≤ 1000 := by
  have := bnF_bd S j
  unfold bnV
  by_cases h0 : ∀ p, ¬ S p
  · rw [if_pos h0]; omega
  · rw [if_neg h0]; omega
theorem sp_in {k : Nat} {n : Nat} (hk : k ≤ n) (hn : n ≤ 6) {X : Mm} (hsg : sgA X) {A : Nat → PS} {r : Int} (hF : mFA X n A r) {h : Int} {Φ : Ps} (hP : Ev mX9_sayPlaces 6 [some (vR 54), some (vI ((k + 1 : Nat) : Int))] [] KK (hsh X (31 * (31 * (31 * (31 * (31 * h + crd (A k)) + bnV (A k) 2) + bnV (A k) 10) + bnV (A k) 35) + shB (crd (A k)))) PP 0 0 Φ) : Ev mX9_sayPlaces 14 [some (vR 54), some (vI (k : Int))] [] KK (hsh X h) PP 0 0 Φ := by
  have hc := crd_rng (A k)
  have h63 : ∀ z, hsh X z 63 (k : Int) = crd (A k) := fun z => by rw [hs_o (by decide)]; exact (hF.2.2.2 k hk).2
  have sg : ∀ z, sgA (hsh X z) := fun z p a => by rw [hs_o (by decide)]; exact hsg p a
  have k2 : ∀ z, Cm mX9_boundOf [vR 54, vI (k : Int), vI 0, vI 2] (hsh X z) (fun w M' => w = some (vI (bnV (A k) 2)) ∧ M' = hsh X z) := fun z => k_boundOf (n := n) (k := k) (a := 0) (b := 2) hk hn (by omega) (by omega) _ (sg z) (hF.hs z)
  have k10 : ∀ z, Cm mX9_boundOf [vR 54, vI (k : Int), vI 1, vI 4] (hsh X z) (fun w M' => w = some (vI (bnV (A k) 10)) ∧ M' = hsh X z) := fun z => k_boundOf (n := n) (k := k) (a := 1) (b := 4) hk hn (by omega) (by omega) _ (sg z) (hF.hs z)
  have k35 : ∀ z, Cm mX9_boundOf [vR 54, vI (k : Int), vI 5, vI 5] (hsh X z) (fun w M' => w = some (vI (bnV (A k) 35)) ∧ M' = hsh X z) := fun z => k_boundOf (n := n) (k := k) (a := 5) (b := 5) hk hn (by omega) (by omega) _ (sg z) (hF.hs z)
  have b2 := bnV_rng (A k) 2
  have b10 := bnV_rng (A k) 10
  have b35 := bnV_rng (A k) 35
  first | refine ev_aload_n dX9_sayPlaces_14 rfl ?_ | refine ev_aloadX_n dX9_sayPlaces_14 rfl ?_
  first | refine ev_aload_n dX9_sayPlaces_15 rfl ?_ | refine ev_aloadX_n dX9_sayPlaces_15 rfl ?_
  refine ev_getR dX9_sayPlaces_16 fX9_35 rfl (by first | rfl | assumption) (by first | rfl | assumption) ?_
  refine ev_iload_n dX9_sayPlaces_19 rfl ?_
  refine ev_iaload dX9_sayPlaces_20 (by first | rfl | assumption) (by omega) (by omega) (by decide) ?_
  rw [h63]
  refine ev_i2l dX9_sayPlaces_21 (by omega) ?_
  refine ev_callv (ci := 9) (k_sayH X) dX9_sayPlaces_22 tX9_say.1 kX9_343 tX9_say.2.1 tX9_say.2.2.1 rfl (by first | rfl | assumption) tX9_say.2.2.2 ⟨⟨Nat.le_of_ble_eq_true rfl, Nat.le_of_ble_eq_true rfl⟩, Nat.le_of_ble_eq_true rfl, Nat.le_of_ble_eq_true rfl⟩ rfl (Nat.le_of_ble_eq_true rfl) ?_
  rintro r K' M' P' ⟨rfl, rfl, rfl, hM'⟩
  rw [hM']
  clear hM' M'
  first | refine ev_aload_n dX9_sayPlaces_25 rfl ?_ | refine ev_aloadX_n dX9_sayPlaces_25 rfl ?_
  first | refine ev_aload_n dX9_sayPlaces_26 rfl ?_ | refine ev_aloadX_n dX9_sayPlaces_26 rfl ?_
  refine ev_iload_n dX9_sayPlaces_27 rfl ?_
  refine ev_iconst dX9_sayPlaces_28 ?_
  refine ev_iconst dX9_sayPlaces_29 ?_
  refine ev_callv (ci := 9) (k2 _) dX9_sayPlaces_30 tX9_boundOf.1 kX9_237 tX9_boundOf.2.1 tX9_boundOf.2.2.1 rfl (by first | rfl | assumption) tX9_boundOf.2.2.2 ⟨⟨Nat.le_of_ble_eq_true rfl, Nat.le_of_ble_eq_true rfl⟩, Nat.le_of_ble_eq_true rfl, Nat.le_of_ble_eq_true rfl⟩ rfl (Nat.le_of_ble_eq_true rfl) ?_
  rintro r K' M' P' ⟨rfl, rfl, rfl, hM'⟩
  rw [hM']
  clear hM' M'
  refine ev_i2l dX9_sayPlaces_33 (by omega) ?_
  refine ev_callv (ci := 9) (k_sayH X) dX9_sayPlaces_34 tX9_say.1 kX9_343 tX9_say.2.1 tX9_say.2.2.1 rfl (by first | rfl | assumption) tX9_say.2.2.2 ⟨⟨Nat.le_of_ble_eq_true rfl, Nat.le_of_ble_eq_true rfl⟩, Nat.le_of_ble_eq_true rfl, Nat.le_of_ble_eq_true rfl⟩ rfl (Nat.le_of_ble_eq_true rfl) ?_
  rintro r K' M' P' ⟨rfl, rfl, rfl, hM'⟩
  rw [hM']
  clear hM' M'
  first | refine ev_aload_n dX9_sayPlaces_37 rfl ?_ | refine ev_aloadX_n dX9_sayPlaces_37 rfl ?_
  first | refine ev_aload_n dX9_sayPlaces_38 rfl ?_ | refine ev_aloadX_n dX9_sayPlaces_38 rfl ?_
  refine ev_iload_n dX9_sayPlaces_39 rfl ?_
  refine ev_iconst dX9_sayPlaces_40 ?_
  refine ev_iconst dX9_sayPlaces_41 ?_
  refine ev_callv (ci := 9) (k10 _) dX9_sayPlaces_42 tX9_boundOf.1 kX9_237 tX9_boundOf.2.1 tX9_boundOf.2.2.1 rfl (by first | rfl | assumption) tX9_boundOf.2.2.2 ⟨⟨Nat.le_of_ble_eq_true rfl, Nat.le_of_ble_eq_true rfl⟩, Nat.le_of_ble_eq_true rfl, Nat.le_of_ble_eq_true rfl⟩ rfl (Nat.le_of_ble_eq_true rfl) ?_
  rintro r K' M' P' ⟨rfl, rfl, rfl, hM'⟩
  rw [hM']
  clear hM' M'
  refine ev_i2l dX9_sayPlaces_45 (by omega) ?_
  refine ev_callv (ci := 9) (k_sayH X) dX9_sayPlaces_46 tX9_say.1 kX9_343 tX9_say.2.1 tX9_say.2.2.1 rfl (by first | rfl | assumption) tX9_say.2.2.2 ⟨⟨Nat.le_of_ble_eq_true rfl, Nat.le_of_ble_eq_true rfl⟩, Nat.le_of_ble_eq_true rfl, Nat.le_of_ble_eq_true rfl⟩ rfl (Nat.le_of_ble_eq_true rfl) ?_
  rintro r K' M' P' ⟨rfl, rfl, rfl, hM'⟩
  rw [hM']
  clear hM' M'
  first | refine ev_aload_n dX9_sayPlaces_49 rfl ?_ | refine ev_aloadX_n dX9_sayPlaces_49 rfl ?_
  first | refine ev_aload_n dX9_sayPlaces_50 rfl ?_ | refine ev_aloadX_n dX9_sayPlaces_50 rfl ?_
  refine ev_iload_n dX9_sayPlaces_51 rfl ?_
  refine ev_iconst dX9_sayPlaces_52 ?_
  refine ev_iconst dX9_sayPlaces_53 ?_
  refine ev_callv (ci := 9) (k35 _) dX9_sayPlaces_54 tX9_boundOf.1 kX9_237 tX9_boundOf.2.1 tX9_boundOf.2.2.1 rfl (by first | rfl | assumption) tX9_boundOf.2.2.2 ⟨⟨Nat.le_of_ble_eq_true rfl, Nat.le_of_ble_eq_true rfl⟩, Nat.le_of_ble_eq_true rfl, Nat.le_of_ble_eq_true rfl⟩ rfl (Nat.le_of_ble_eq_true rfl) ?_
  rintro r K' M' P' ⟨rfl, rfl, rfl, hM'⟩
  rw [hM']
  clear hM' M'
  refine ev_i2l dX9_sayPlaces_57 (by omega) ?_
  refine ev_callv (ci := 9) (k_sayH X) dX9_sayPlaces_58 tX9_say.1 kX9_343 tX9_say.2.1 tX9_say.2.2.1 rfl (by first | rfl | assumption) tX9_say.2.2.2 ⟨⟨Nat.le_of_ble_eq_true rfl, Nat.le_of_ble_eq_true rfl⟩, Nat.le_of_ble_eq_true rfl, Nat.le_of_ble_eq_true rfl⟩ rfl (Nat.le_of_ble_eq_true rfl) ?_
  rintro r K' M' P' ⟨rfl, rfl, rfl, hM'⟩
  rw [hM']
  clear hM' M'
  first | refine ev_aload_n dX9_sayPlaces_61 rfl ?_ | refine ev_aloadX_n dX9_sayPlaces_61 rfl ?_
  first | refine ev_aload_n dX9_sayPlaces_62 rfl ?_ | refine ev_aloadX_n dX9_sayPlaces_62 rfl ?_
  refine ev_getR dX9_sayPlaces_63 fX9_35 rfl (by first | rfl | assumption) (by first | rfl | assumption) ?_
  refine ev_iload_n dX9_sayPlaces_66 rfl ?_
  refine ev_iaload dX9_sayPlaces_67 (by first | rfl | assumption) (by omega) (by omega) (by decide) ?_
  rw [h63]
  refine ev_calls (k_bitsOf hc.1 hc.2 _) dX9_sayPlaces_68 tX9_bitsOf.1 kX9_251 tX9_bitsOf.2.1 tX9_bitsOf.2.2 ⟨⟨Nat.le_of_ble_eq_true rfl, Nat.le_of_ble_eq_true rfl⟩, Nat.le_of_ble_eq_true rfl, Nat.le_of_ble_eq_true rfl⟩ rfl (Nat.le_of_ble_eq_true rfl) ?_
  rintro r K' M' P' ⟨rfl, rfl, rfl, hM'⟩
  rw [hM']
  clear hM' M'
  refine ev_callv (ci := 9) (k_sayH X) dX9_sayPlaces_71 tX9_say.1 kX9_343 tX9_say.2.1 tX9_say.2.2.1 rfl (by first | rfl | assumption) tX9_say.2.2.2 ⟨⟨Nat.le_of_ble_eq_true rfl, Nat.le_of_ble_eq_true rfl⟩, Nat.le_of_ble_eq_true rfl, Nat.le_of_ble_eq_true rfl⟩ rfl (Nat.le_of_ble_eq_true rfl) ?_
  rintro r K' M' P' ⟨rfl, rfl, rfl, hM'⟩
  rw [hM']
  clear hM' M'
  refine ev_iinc dX9_sayPlaces_74 rfl (by decide) ?_
  refine ev_goto (tgt := 6) dX9_sayPlaces_77 (by decide) ?_
  exact ev_to hP (by repeat (first | exact trivial | refine ⟨rfl, ?_⟩)) rfl rfl rfl rfl
theorem k_sayPlaces {n : Nat} (hn : 0 < n) {M X : Mm} {h : Int} (hX : Kh M X n h) {A : Nat → PS} {r : Int} (hA : mPr M n A r) : Cm mX9_sayPlaces [vR 54] X (fun w M' => w = none ∧ Kh M M' n (dgSh A (n + 1) h)) := by
  have h6 := hX.2.1.n6
  refine cm_of (by decide +kernel) (fun _ => trivial) (Nat.le_of_ble_eq_true rfl) ?_
  first | refine ev_aload_n dX9_sayPlaces_0 rfl ?_ | refine ev_aloadX_n dX9_sayPlaces_0 rfl ?_
  refine ev_callv (ci := 9) (k_fresh hn X hX.2.1 (by rw [mPr, hX.1.p]; exact hA)) dX9_sayPlaces_1 tX9_freshen.1 kX9_226 tX9_freshen.2.1 tX9_freshen.2.2.1 rfl (by first | rfl | assumption) tX9_freshen.2.2.2 ⟨⟨Nat.le_of_ble_eq_true rfl, Nat.le_of_ble_eq_true rfl⟩, Nat.le_of_ble_eq_true rfl, Nat.le_of_ble_eq_true rfl⟩ rfl (Nat.le_of_ble_eq_true rfl) ?_
  rintro w K' Y P' ⟨rfl, rfl, rfl, q1, q2⟩
  have hY := hX.q q1
  have e0 : Y = hsh Y (dgSh A 0 h) := by
    have e : dgSh A 0 h = Y 54 28 := hY.2.2.symm
    rw [e]
    unfold hsh
    rw [upM_rw, up1_id, rwc_self]
  have hs := hY.2.1.sz
  have hsg := hY.2.1.sg
  refine ev_iconst dX9_sayPlaces_4 ?_
  refine ev_istore_n dX9_sayPlaces_5 (by decide) ?_
  refine ev_to (L' := [some (vR 54), some (vI ((0 : Nat) : Int))]) (S' := []) (M' := hsh Y (dgSh A (0 : Nat) h)) (k' := 0) (n' := 0) ?_ (by repeat (first | exact trivial | refine ⟨rfl, ?_⟩)) e0 rfl rfl rfl
  refine up_loop (P := fun i => Ev mX9_sayPlaces 6 [some (vR 54), some (vI (i : Int))] [] KK (hsh Y (dgSh A i h)) PP 0 0 _) (n + 1) ?_ ?_
  · refine ev_iload_n dX9_sayPlaces_6 rfl ?_
    first | refine ev_aload_n dX9_sayPlaces_7 rfl ?_ | refine ev_aloadX_n dX9_sayPlaces_7 rfl ?_
    refine ev_gI 8 dX9_sayPlaces_8 fX9_126 rfl (by first | rfl | assumption) rfl ?_
    rw [hs_54 (by decide), hs]
    refine ev_icmp_gt (tgt := 80) dX9_sayPlaces_11 (by decide) (by omega) (by omega) (fun hb11 => ?_) (fun hb11 => ?_)
    · exact ev_return dX9_sayPlaces_80 rfl (rz ⟨rfl, hY.s _⟩)
    · omega
  · intro i hi hP
    have hQ := sp_in (k := i) (n := n) (by omega) h6 hsg q2 (h := dgSh A i h) hP
    refine ev_iload_n dX9_sayPlaces_6 rfl ?_
    first | refine ev_aload_n dX9_sayPlaces_7 rfl ?_ | refine ev_aloadX_n dX9_sayPlaces_7 rfl ?_
    refine ev_gI 8 dX9_sayPlaces_8 fX9_126 rfl (by first | rfl | assumption) rfl ?_
    rw [hs_54 (by decide), hs]
    refine ev_icmp_gt (tgt := 80) dX9_sayPlaces_11 (by decide) (by omega) (by omega) (fun hb11 => ?_) (fun hb11 => ?_)
    · omega
    · exact ev_to hQ (by repeat (first | exact trivial | refine ⟨rfl, ?_⟩)) rfl rfl rfl rfl
theorem mstp_rng {M : Mm} {n : Nat} (hK : KI M n) (A : Nat → PS) {k : Nat} (hk : k < n) (w : Int) : -5000 ≤ mstp M A k w ∧ mstp M A k w ≤ 5000 := by
  have h6 := hK.n6
  have s0 := hK.sn0
  have s1 := hK.sn1
  have hso := mso_rng (st := k) (n := (M 54 20).toNat) hK.snb (by omega)
  have hq : -1 ≤ qfV (mso M k (M 54 20).toNat) ∧ qfV (mso M k (M 54 20).toNat) ≤ 4 := by
    have := qfS_rng hso.1 hso.2 4 (by omega)
    unfold qfV
    split <;> omega
  have d2 := b01_rng ((∃ p, A k p) ∧ ∀ p, ¬ A (k + 1) p)
  have d3 : idleV (mK (M 57)) A k = 0 ∨ idleV (mK (M 57)) A k = 1 := b01_rng _
  have d1' : deadV A k = 0 ∨ deadV A k = 1 := b01_rng _
  have hb : (w = 0 ∨ w = 1 ∨ w = 2 ∨ w = 3) → -1000 ≤ M 57 (4 * (k : Int) + w) ∧ M 57 (4 * (k : Int) + w) ≤ 1000 := fun h => hK.bd _ (by omega) (by omega)
  unfold mstp
  repeat' split
  all_goals omega
theorem kCt_rng {M : Mm} {n : Nat} (hK : KI M n) (A : Nat → PS) {r : Int} (hr : 0 < n → 0 ≤ r ∧ r ≤ 240) {sz : Int → Int} (hz : rkH M sz) (w : Int) : -500000 ≤ kCt M n A r sz w ∧ kCt M n A r sz w ≤ 500000 := by
  have h6 := hK.n6
  have c1 := nlp_bd (mK (M 57)) n
  have c3 := sum01 (n := n) (f := deadV A) (fun i => b01_rng _)
  have c4 := sum01 (n := n) (f := idleV (mK (M 57)) A) (fun i => b01_rng _)
  have c5 := crd_rng (A n)
  have k0 := (hz 0 (by omega) (by omega)).1
  have k1 := (hz 1 (by omega) (by omega)).1
  have k2 := (hz 2 (by omega) (by omega)).1
  have k3 := (hz 3 (by omega) (by omega)).1
  have k4 := (hz 4 (by omega) (by omega)).1
  have c6 : sumS sz 5 = sz 0 + sz 1 + sz 2 + sz 3 + sz 4 := by simp [sumS]
  have := hK.sn0
  have := hK.sn1
  have := hK.pg0
  have := hK.pg1
  have := hK.pr
  unfold kCt
  repeat' split
  all_goals omega
theorem mstp_h {M M' : Mm} (h : FrH M M') (A : Nat → PS) (k : Nat) (w : Int) : mstp M' A k w = mstp M A k w := by
  unfold mstp mso
  rw [h.p, h.1 20 (by decide) (by decide) (by decide), h.2 65 (by decide) (by decide) (by decide) (by decide) (by decide) (by decide)]
theorem kCt_h {M M' : Mm} (h : FrH M M') (n : Nat) (A : Nat → PS) (r : Int) (sz : Int → Int) (w : Int) : kCt M' n A r sz w = kCt M n A r sz w := by
  unfold kCt
  rw [h.p, h.1 20 (by decide) (by decide) (by decide), h.1 1 (by decide) (by decide) (by decide), h.1 9 (by decide) (by decide) (by decide)]
noncomputable def dgMt (M : Mm) (A : Nat → PS) : Nat → Int → Int
  | 0, h => h
  | i + 1, h => dg1 (mstp M A i) 9 (dgMt M A i h)
noncomputable def kDg (M : Mm) (n : Nat) (A : Nat → PS) (r : Int) (sz : Int → Int) : Int := dg1 (kCt M n A r sz) 10 (dg1 (M 55) (M 54 1).toNat (dg1 (M 64) 15 (if n = 0 then dgMt M A n 1447 else dgSh A (n + 1) (dgMt M A n 1447))))
abbrev kdP (M : Mm) (n : Nat) (A : Nat → PS) (r : Int) (sz : Int → Int) : Pz := fun w M' => w = some (vL (kDg M n A r sz)) ∧ FrH M M' ∧ KI M' n
theorem dg_4 {n : Nat} {M : Mm} (hK : KI M n) {A : Nat → PS} {r : Int} (hA : 0 < n → mPr M n A r) (hr : 0 < n → 0 ≤ r ∧ r ≤ 240) {sz : Int → Int} (hz : rkH M sz) {z : Int} (hz3 : kDg M n A r sz = dg1 (kCt M n A r sz) 10 z) : ∀ X, Kh M X n z → Ev mX9_digest 113 [some (vR 54), some (vI ((0 : Nat) : Int)), none] [] KK X PP 0 0 (Rz mX9_digest (kdP M n A r sz)) := by
  refine up_loop (P := fun i => ∀ X, Kh M X n (dg1 (kCt M n A r sz) i z) → Ev mX9_digest 113 [some (vR 54), some (vI (i : Int)), none] [] KK X PP 0 0 _) 10 ?_ ?_
  · intro X hX
    have e := hX.2.2
    rw [← hz3] at e
    refine ev_iload_n dX9_digest_113 rfl ?_
    refine ev_bipush dX9_digest_114 ?_
    refine ev_icmp_ge (tgt := 135) dX9_digest_116 (by decide) (by omega) (by omega) (fun hb116 => ?_) (fun hb116 => ?_)
    · first | refine ev_aload_n dX9_digest_135 rfl ?_ | refine ev_aloadX_n dX9_digest_135 rfl ?_
      refine ev_gJ 28 dX9_digest_136 fX9_339 rfl (by first | rfl | assumption) rfl ?_
      rw [e]
      exact ev_lreturn dX9_digest_139 rfl (rz ⟨rfl, hX.1, hX.2.1⟩)
    · omega
  · intro i hi hP X hX
    have hzX : rkH X sz := fun kd a b => by rw [hX.1.2 64 (by decide) (by decide) (by decide) (by decide) (by decide) (by decide)]; exact hz kd a b
    have hg := kCt_rng hX.2.1 A hr hzX (i : Int)
    have eg := kCt_h hX.1 n A r sz (i : Int)
    rw [eg] at hg
    refine ev_iload_n dX9_digest_113 rfl ?_
    refine ev_bipush dX9_digest_114 ?_
    refine ev_icmp_ge (tgt := 135) dX9_digest_116 (by decide) (by omega) (by omega) (fun hb116 => ?_) (fun hb116 => ?_)
    · omega
    · first | refine ev_aload_n dX9_digest_119 rfl ?_ | refine ev_aloadX_n dX9_digest_119 rfl ?_
      first | refine ev_aload_n dX9_digest_120 rfl ?_ | refine ev_aloadX_n dX9_digest_120 rfl ?_
      refine ev_iload_n dX9_digest_121 rfl ?_
      refine ev_callv (ci := 9) (k_countOf (x := (i : Int)) (by omega) X hX.2.1 (fun h => by rw [mPr, hX.1.p]; exact hA h) hzX) dX9_digest_122 tX9_countOf.1 kX9_334 tX9_countOf.2.1 tX9_countOf.2.2.1 rfl (by first | rfl | assumption) tX9_countOf.2.2.2 ⟨⟨Nat.le_of_ble_eq_true rfl, Nat.le_of_ble_eq_true rfl⟩, Nat.le_of_ble_eq_true rfl, Nat.le_of_ble_eq_true rfl⟩ rfl (Nat.le_of_ble_eq_true rfl) ?_
      rintro w K' Y P' ⟨rfl, rfl, rfl, q1⟩
      rw [eg]
      refine ev_i2l dX9_digest_125 (by omega) ?_
      refine ev_callv (ci := 9) (k_say Y) dX9_digest_126 tX9_say.1 kX9_343 tX9_say.2.1 tX9_say.2.2.1 rfl (by first | rfl | assumption) tX9_say.2.2.2 ⟨⟨Nat.le_of_ble_eq_true rfl, Nat.le_of_ble_eq_true rfl⟩, Nat.le_of_ble_eq_true rfl, Nat.le_of_ble_eq_true rfl⟩ rfl (Nat.le_of_ble_eq_true rfl) ?_
      rintro w K' Z P' ⟨rfl, rfl, rfl, hZ⟩
      refine ev_iinc dX9_digest_129 rfl (by decide) ?_
      refine ev_goto (tgt := 113) dX9_digest_132 (by decide) ?_
      have hY := hX.q q1
      rw [hY.2.2] at hZ
      rw [hZ]
      exact ev_to (hP _ (hY.s _)) (by repeat (first | exact trivial | refine ⟨rfl, ?_⟩)) rfl rfl rfl rfl
theorem dg_3 {n : Nat} {M : Mm} (hK : KI M n) {A : Nat → PS} {r : Int} (hA : 0 < n → mPr M n A r) (hr : 0 < n → 0 ≤ r ∧ r ≤ 240) {sz : Int → Int} (hz : rkH M sz) {z : Int} (hz3 : kDg M n A r sz = dg1 (kCt M n A r sz) 10 (dg1 (M 55) (M 54 1).toNat z)) : ∀ X, Kh M X n z → Ev mX9_digest 86 [some (vR 54), some (vI ((0 : Nat) : Int)), none] [] KK X PP 0 0 (Rz mX9_digest (kdP M n A r sz)) := by
  have hp0 := hK.pg0
  have hp1 := hK.pg1
  refine up_loop (P := fun i => ∀ X, Kh M X n (dg1 (M 55) i z) → Ev mX9_digest 86 [some (vR 54), some (vI (i : Int)), none] [] KK X PP 0 0 _) (M 54 1).toNat ?_ ?_
  · intro X hX
    have h4 := dg_4 hK hA hr hz hz3 X hX
    have e1 : X 54 1 = M 54 1 := hX.1.1 1 (by decide) (by decide) (by decide)
    refine ev_iload_n dX9_digest_86 rfl ?_
    first | refine ev_aload_n dX9_digest_87 rfl ?_ | refine ev_aloadX_n dX9_digest_87 rfl ?_
    refine ev_gI 1 dX9_digest_88 fX9_64 rfl (by first | rfl | assumption) rfl ?_
    rw [e1]
    refine ev_icmp_ge (tgt := 111) dX9_digest_91 (by decide) (by omega) (by omega) (fun hb91 => ?_) (fun hb91 => ?_)
    · refine ev_iconst dX9_digest_111 ?_
      refine ev_istore_n dX9_digest_112 (by decide) ?_
      exact ev_to h4 (by repeat (first | exact trivial | refine ⟨rfl, ?_⟩)) rfl rfl rfl rfl
    · omega
  · intro i hi hP X hX
    have e1 : X 54 1 = M 54 1 := hX.1.1 1 (by decide) (by decide) (by decide)
    have e2 : X 55 = M 55 := hX.1.2 55 (by decide) (by decide) (by decide) (by decide) (by decide) (by decide)
    have hg := hK.pgl (i : Int) (by omega) (by omega)
    refine ev_iload_n dX9_digest_86 rfl ?_
    first | refine ev_aload_n dX9_digest_87 rfl ?_ | refine ev_aloadX_n dX9_digest_87 rfl ?_
    refine ev_gI 1 dX9_digest_88 fX9_64 rfl (by first | rfl | assumption) rfl ?_
    rw [e1]
    refine ev_icmp_ge (tgt := 111) dX9_digest_91 (by decide) (by omega) (by omega) (fun hb91 => ?_) (fun hb91 => ?_)
    · omega
    · first | refine ev_aload_n dX9_digest_94 rfl ?_ | refine ev_aloadX_n dX9_digest_94 rfl ?_
      first | refine ev_aload_n dX9_digest_95 rfl ?_ | refine ev_aloadX_n dX9_digest_95 rfl ?_
      refine ev_getR dX9_digest_96 fX9_7 rfl (by first | rfl | assumption) (by first | rfl | assumption) ?_
      refine ev_iload_n dX9_digest_99 rfl ?_
      refine ev_iaload dX9_digest_100 (by first | rfl | assumption) (by omega) (by omega) (by decide) ?_
      rw [e2]
      refine ev_i2l dX9_digest_101 (by omega) ?_
      refine ev_callv (ci := 9) (k_say X) dX9_digest_102 tX9_say.1 kX9_343 tX9_say.2.1 tX9_say.2.2.1 rfl (by first | rfl | assumption) tX9_say.2.2.2 ⟨⟨Nat.le_of_ble_eq_true rfl, Nat.le_of_ble_eq_true rfl⟩, Nat.le_of_ble_eq_true rfl, Nat.le_of_ble_eq_true rfl⟩ rfl (Nat.le_of_ble_eq_true rfl) ?_
      rintro w K' Z P' ⟨rfl, rfl, rfl, hZ⟩
      refine ev_iinc dX9_digest_105 rfl (by decide) ?_
      refine ev_goto (tgt := 86) dX9_digest_108 (by decide) ?_
      rw [hX.2.2] at hZ
      rw [hZ]
      exact ev_to (hP _ (hX.s _)) (by repeat (first | exact trivial | refine ⟨rfl, ?_⟩)) rfl rfl rfl rfl
theorem dg_2 {n : Nat} {M : Mm} (hK : KI M n) {A : Nat → PS} {r : Int} (hA : 0 < n → mPr M n A r) (hr : 0 < n → 0 ≤ r ∧ r ≤ 240) {sz : Int → Int} (hz : rkH M sz) {z : Int} (hz3 : kDg M n A r sz = dg1 (kCt M n A r sz) 10 (dg1 (M 55) (M 54 1).toNat (dg1 (M 64) 15 z))) : ∀ X, Kh M X n z → Ev mX9_digest 61 [some (vR 54), some (vI ((0 : Nat) : Int)), none] [] KK X PP 0 0 (Rz mX9_digest (kdP M n A r sz)) := by
  refine up_loop (P := fun i => ∀ X, Kh M X n (dg1 (M 64) i z) → Ev mX9_digest 61 [some (vR 54), some (vI (i : Int)), none] [] KK X PP 0 0 _) 15 ?_ ?_
  · intro X hX
    have h4 := dg_3 hK hA hr hz hz3 X hX
    refine ev_iload_n dX9_digest_61 rfl ?_
    refine ev_bipush dX9_digest_62 ?_
    refine ev_icmp_ge (tgt := 84) dX9_digest_64 (by decide) (by omega) (by omega) (fun hb64 => ?_) (fun hb64 => ?_)
    · refine ev_iconst dX9_digest_84 ?_
      refine ev_istore_n dX9_digest_85 (by decide) ?_
      exact ev_to h4 (by repeat (first | exact trivial | refine ⟨rfl, ?_⟩)) rfl rfl rfl rfl
    · omega
  · intro i hi hP X hX
    have e2 : X 64 = M 64 := hX.1.2 64 (by decide) (by decide) (by decide) (by decide) (by decide) (by decide)
    have hg := hK.rkb (i : Int) (by omega) (by omega)
    refine ev_iload_n dX9_digest_61 rfl ?_
    refine ev_bipush dX9_digest_62 ?_
    refine ev_icmp_ge (tgt := 84) dX9_digest_64 (by decide) (by omega) (by omega) (fun hb64 => ?_) (fun hb64 => ?_)
    · omega
    · first | refine ev_aload_n dX9_digest_67 rfl ?_ | refine ev_aloadX_n dX9_digest_67 rfl ?_
      first | refine ev_aload_n dX9_digest_68 rfl ?_ | refine ev_aloadX_n dX9_digest_68 rfl ?_
      refine ev_getR dX9_digest_69 fX9_38 rfl (by first | rfl | assumption) (by first | rfl | assumption) ?_
      refine ev_iload_n dX9_digest_72 rfl ?_
      refine ev_iaload dX9_digest_73 (by first | rfl | assumption) (by omega) (by omega) (by decide) ?_
      rw [e2]
      refine ev_i2l dX9_digest_74 (by omega) ?_
      refine ev_callv (ci := 9) (k_say X) dX9_digest_75 tX9_say.1 kX9_343 tX9_say.2.1 tX9_say.2.2.1 rfl (by first | rfl | assumption) tX9_say.2.2.2 ⟨⟨Nat.le_of_ble_eq_true rfl, Nat.le_of_ble_eq_true rfl⟩, Nat.le_of_ble_eq_true rfl, Nat.le_of_ble_eq_true rfl⟩ rfl (Nat.le_of_ble_eq_true rfl) ?_
      rintro w K' Z P' ⟨rfl, rfl, rfl, hZ⟩
      refine ev_iinc dX9_digest_78 rfl (by decide) ?_
      refine ev_goto (tgt := 61) dX9_digest_81 (by decide) ?_
      rw [hX.2.2] at hZ
      rw [hZ]
      exact ev_to (hP _ (hX.s _)) (by repeat (first | exact trivial | refine ⟨rfl, ?_⟩)) rfl rfl rfl rfl
theorem dg_1 {n : Nat} {M : Mm} (hK : KI M n) {A : Nat → PS} {r : Int} (hA : 0 < n → mPr M n A r) (hr : 0 < n → 0 ≤ r ∧ r ≤ 240) {sz : Int → Int} (hz : rkH M sz) : ∀ X, Kh M X n (dgMt M A n 1447) → Ev mX9_digest 48 [some (vR 54), none, none] [] KK X PP 0 0 (Rz mX9_digest (kdP M n A r sz)) := by
  intro X hX
  have hs := hX.2.1.sz
  have h6 := hK.n6
  by_cases h0 : n = 0
  · have h4 := dg_2 hK hA hr hz (z := dgMt M A n 1447) (by unfold kDg; rw [if_pos h0]) X hX
    first | refine ev_aload_n dX9_digest_48 rfl ?_ | refine ev_aloadX_n dX9_digest_48 rfl ?_
    refine ev_callv (ci := 9) (k_lacks X (by omega)) dX9_digest_49 tX9_lacks.1 kX9_222 tX9_lacks.2.1 tX9_lacks.2.2.1 rfl (by first | rfl | assumption) tX9_lacks.2.2.2 ⟨⟨Nat.le_of_ble_eq_true rfl, Nat.le_of_ble_eq_true rfl⟩, Nat.le_of_ble_eq_true rfl, Nat.le_of_ble_eq_true rfl⟩ rfl (Nat.le_of_ble_eq_true rfl) ?_
    rintro r K' M' P' ⟨rfl, rfl, ⟨v49, rfl, hw49, hv49⟩, hM'⟩
    rw [hM']
    clear hM' M'
    refine ev_if_ne (tgt := 59) dX9_digest_52 (by decide) (by omega) (fun hb52 => ?_) (fun hb52 => ?_)
    · have g49 := hv49.mp (by omega)
      refine ev_iconst dX9_digest_59 ?_
      refine ev_istore_n dX9_digest_60 (by decide) ?_
      exact ev_to h4 (by repeat (first | exact trivial | refine ⟨rfl, ?_⟩)) rfl rfl rfl rfl
    · have g49 := (not_congr hv49).mp (by omega)
      omega
  · first | refine ev_aload_n dX9_digest_48 rfl ?_ | refine ev_aloadX_n dX9_digest_48 rfl ?_
    refine ev_callv (ci := 9) (k_lacks X (by omega)) dX9_digest_49 tX9_lacks.1 kX9_222 tX9_lacks.2.1 tX9_lacks.2.2.1 rfl (by first | rfl | assumption) tX9_lacks.2.2.2 ⟨⟨Nat.le_of_ble_eq_true rfl, Nat.le_of_ble_eq_true rfl⟩, Nat.le_of_ble_eq_true rfl, Nat.le_of_ble_eq_true rfl⟩ rfl (Nat.le_of_ble_eq_true rfl) ?_
    rintro r K' M' P' ⟨rfl, rfl, ⟨v49, rfl, hw49, hv49⟩, hM'⟩
    rw [hM']
    clear hM' M'
    refine ev_if_ne (tgt := 59) dX9_digest_52 (by decide) (by omega) (fun hb52 => ?_) (fun hb52 => ?_)
    · have g49 := hv49.mp (by omega)
      refine ev_iconst dX9_digest_59 ?_
      refine ev_istore_n dX9_digest_60 (by decide) ?_
      first | (exfalso; omega) | exact ev_to (dg_2 hK hA hr hz (z := dgSh A (n + 1) (dgMt M A n 1447)) (by unfold kDg; rw [if_neg h0]) Y hY) (by repeat (first | exact trivial | refine ⟨rfl, ?_⟩)) rfl rfl rfl rfl
    · have g49 := (not_congr hv49).mp (by omega)
      first | refine ev_aload_n dX9_digest_55 rfl ?_ | refine ev_aloadX_n dX9_digest_55 rfl ?_
      refine ev_callv (ci := 9) (k_sayPlaces (n := n) (by omega) hX (hA (by omega))) dX9_digest_56 tX9_sayPlaces.1 kX9_349 tX9_sayPlaces.2.1 tX9_sayPlaces.2.2.1 rfl (by first | rfl | assumption) tX9_sayPlaces.2.2.2 ⟨⟨Nat.le_of_ble_eq_true rfl, Nat.le_of_ble_eq_true rfl⟩, Nat.le_of_ble_eq_true rfl, Nat.le_of_ble_eq_true rfl⟩ rfl (Nat.le_of_ble_eq_true rfl) ?_
      rintro w K' Y P' ⟨rfl, rfl, rfl, hY⟩
      refine ev_iconst dX9_digest_59 ?_
      refine ev_istore_n dX9_digest_60 (by decide) ?_
      first | (exfalso; omega) | exact ev_to (dg_2 hK hA hr hz (z := dgSh A (n + 1) (dgMt M A n 1447)) (by unfold kDg; rw [if_neg h0]) Y hY) (by repeat (first | exact trivial | refine ⟨rfl, ?_⟩)) rfl rfl rfl rfl
theorem k_digest {n : Nat} (M : Mm) (hK : KI M n) {A : Nat → PS} {r : Int} (hA : 0 < n → mPr M n A r) (hr : 0 < n → 0 ≤ r ∧ r ≤ 240) {sz : Int → Int} (hz : rkH M sz) : Cm mX9_digest [vR 54] M (kdP M n A r sz) := by
  have h6 := hK.n6
  refine cm_of (by decide +kernel) (fun _ => trivial) (Nat.le_of_ble_eq_true rfl) ?_
  first | refine ev_aload_n dX9_digest_0 rfl ?_ | refine ev_aloadX_n dX9_digest_0 rfl ?_
  refine ev_ldc2 (z := 1447) dX9_digest_1 jX9_347 (by decide) ?_
  refine ev_pJ 28 dX9_digest_4 sX9_339 rfl (by first | rfl | assumption) rfl ?_
  refine ev_iconst dX9_digest_7 ?_
  refine ev_istore_n dX9_digest_8 (by decide) ?_
  have hs0 : Kh M (upM M 54 28 1447) n (dgMt M A 0 1447) := ⟨FrH.rf.s 1447, hK.hs 1447, hs_28 M 1447⟩
  generalize upM M 54 28 1447 = X0 at hs0 ⊢
  have lp : ∀ X, Kh M X n (dgMt M A 0 1447) → Ev mX9_digest 9 [some (vR 54), some (vI ((0 : Nat) : Int)), none] [] KK X PP 0 0 (Rz mX9_digest (kdP M n A r sz)) := by
    refine up_loop (P := fun i => ∀ X, Kh M X n (dgMt M A i 1447) → Ev mX9_digest 9 [some (vR 54), some (vI (i : Int)), none] [] KK X PP 0 0 _) n ?_ ?_
    · intro X hX
      have hs := hX.2.1.sz
      have h4 := dg_1 hK hA hr hz X hX
      refine ev_iload_n dX9_digest_9 rfl ?_
      first | refine ev_aload_n dX9_digest_10 rfl ?_ | refine ev_aloadX_n dX9_digest_10 rfl ?_
      refine ev_gI 8 dX9_digest_11 fX9_126 rfl (by first | rfl | assumption) rfl ?_
      rw [hs]
      refine ev_icmp_ge (tgt := 48) dX9_digest_14 (by decide) (by omega) (by omega) (fun hb14 => ?_) (fun hb14 => ?_)
      · exact ev_to h4 (by repeat (first | exact trivial | refine ⟨rfl, ?_⟩)) rfl rfl rfl rfl
      · omega
    · intro i hi hP X hX
      have hs := hX.2.1.sz
      have inn : ∀ X, Kh M X n (dg1 (mstp M A i) 0 (dgMt M A i 1447)) → Ev mX9_digest 19 [some (vR 54), some (vI (i : Int)), some (vI ((0 : Nat) : Int))] [] KK X PP 0 0 (Rz mX9_digest (kdP M n A r sz)) := by
        refine up_loop (P := fun w => ∀ X, Kh M X n (dg1 (mstp M A i) w (dgMt M A i 1447)) → Ev mX9_digest 19 [some (vR 54), some (vI (i : Int)), some (vI (w : Int))] [] KK X PP 0 0 _) 9 ?_ ?_
        · intro X hX
          have h4 := hP X hX
          refine ev_iload_n dX9_digest_19 rfl ?_
          refine ev_bipush dX9_digest_20 ?_
          refine ev_icmp_ge (tgt := 42) dX9_digest_22 (by decide) (by omega) (by omega) (fun hb22 => ?_) (fun hb22 => ?_)
          · refine ev_iinc dX9_digest_42 rfl (by decide) ?_
            refine ev_goto (tgt := 9) dX9_digest_45 (by decide) ?_
            exact ev_to h4 (by repeat (first | exact trivial | refine ⟨rfl, ?_⟩)) rfl rfl rfl rfl
          · omega
        · intro w hw hQ X hX
          have hg := mstp_rng hX.2.1 A hi (w : Int)
          have eg := mstp_h hX.1 A i (w : Int)
          rw [eg] at hg
          refine ev_iload_n dX9_digest_19 rfl ?_
          refine ev_bipush dX9_digest_20 ?_
          refine ev_icmp_ge (tgt := 42) dX9_digest_22 (by decide) (by omega) (by omega) (fun hb22 => ?_) (fun hb22 => ?_)
          · omega
          · first | refine ev_aload_n dX9_digest_25 rfl ?_ | refine ev_aloadX_n dX9_digest_25 rfl ?_
            first | refine ev_aload_n dX9_digest_26 rfl ?_ | refine ev_aloadX_n dX9_digest_26 rfl ?_
            refine ev_iload_n dX9_digest_27 rfl ?_
            refine ev_iload_n dX9_digest_28 rfl ?_
            refine ev_callv (ci := 9) (k_tellStep (n := n) (k := i) (w := (w : Int)) hi (by omega) X hX.2.1 (by rw [mPr, hX.1.p]; exact hA (by omega))) dX9_digest_29 tX9_tellStep.1 kX9_275 tX9_tellStep.2.1 tX9_tellStep.2.2.1 rfl (by first | rfl | assumption) tX9_tellStep.2.2.2 ⟨⟨Nat.le_of_ble_eq_true rfl, Nat.le_of_ble_eq_true rfl⟩, Nat.le_of_ble_eq_true rfl, Nat.le_of_ble_eq_true rfl⟩ rfl (Nat.le_of_ble_eq_true rfl) ?_
            rintro v K' Y P' ⟨rfl, rfl, rfl, q1, q2⟩
            rw [eg]
            refine ev_i2l dX9_digest_32 (by omega) ?_
            refine ev_callv (ci := 9) (k_say Y) dX9_digest_33 tX9_say.1 kX9_343 tX9_say.2.1 tX9_say.2.2.1 rfl (by first | rfl | assumption) tX9_say.2.2.2 ⟨⟨Nat.le_of_ble_eq_true rfl, Nat.le_of_ble_eq_true rfl⟩, Nat.le_of_ble_eq_true rfl, Nat.le_of_ble_eq_true rfl⟩ rfl (Nat.le_of_ble_eq_true rfl) ?_
            rintro v K' Z P' ⟨rfl, rfl, rfl, hZ⟩
            refine ev_iinc dX9_digest_36 rfl (by decide) ?_
            refine ev_goto (tgt := 19) dX9_digest_39 (by decide) ?_
            have hY := hX.q q1
            rw [hY.2.2] at hZ
            rw [hZ]
            exact ev_to (hQ _ (hY.s _)) (by repeat (first | exact trivial | refine ⟨rfl, ?_⟩)) rfl rfl rfl rfl
      have h5 := inn X hX
      refine ev_iload_n dX9_digest_9 rfl ?_
      first | refine ev_aload_n dX9_digest_10 rfl ?_ | refine ev_aloadX_n dX9_digest_10 rfl ?_
      refine ev_gI 8 dX9_digest_11 fX9_126 rfl (by first | rfl | assumption) rfl ?_
      rw [hs]
      refine ev_icmp_ge (tgt := 48) dX9_digest_14 (by decide) (by omega) (by omega) (fun hb14 => ?_) (fun hb14 => ?_)
      · omega
      · refine ev_iconst dX9_digest_17 ?_
        refine ev_istore_n dX9_digest_18 (by decide) ?_
        exact ev_to h5 (by repeat (first | exact trivial | refine ⟨rfl, ?_⟩)) rfl rfl rfl rfl
  have lp0 := lp X0 hs0
  exact ev_to lp0 (by repeat (first | exact trivial | refine ⟨rfl, ?_⟩)) rfl rfl rfl rfl
