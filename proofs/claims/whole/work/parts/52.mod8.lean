/-! ===== the reference: what is kept between calls, and what is asked ===== -/
def KI (M : Mm) (n : Nat) : Prop := (0 ≤ M 54 1) ∧ (M 54 1 ≤ 36) ∧ (∀ j, 0 ≤ j → j < M 54 1 → 1 ≤ M 55 j ∧ M 55 j ≤ 126) ∧ (M 54 8 = n) ∧ (n ≤ 6) ∧ (prOK (mK (M 57)) (mA (M 57)) (mB (M 57)) (mZ (M 57)) n) ∧ (∀ j, 0 ≤ j → j < 4 * (n : Int) → -1000 ≤ M 57 j ∧ M 57 j ≤ 1000) ∧ (M 54 11 = 0 ∨ M 54 11 = 1) ∧ (M 54 11 = 0 → 0 < n → mFS M n) ∧ (sgA M) ∧ (∀ j, 0 ≤ j → j < 15 → -1 ≤ M 64 j ∧ M 64 j ≤ 1000) ∧ (0 ≤ M 54 20) ∧ (M 54 20 ≤ 6) ∧ (∀ j, 0 ≤ j → j < 6 → (-1000 ≤ M 65 (3 * j) ∧ M 65 (3 * j) ≤ 1000) ∧ (0 ≤ M 65 (3 * j + 1) ∧ M 65 (3 * j + 1) ≤ 3) ∧ (M 65 (3 * j + 2) = 0 ∨ M 65 (3 * j + 2) = 1)) ∧ (0 ≤ M 54 9 ∧ M 54 9 ≤ 100000) ∧ (-1 ≤ M 54 23 ∧ M 54 23 ≤ M 54 9)
theorem KI.pg0 {M : Mm} {n : Nat} (h : KI M n) : 0 ≤ M 54 1 := h.1
theorem KI.pg1 {M : Mm} {n : Nat} (h : KI M n) : M 54 1 ≤ 36 := h.2.1
theorem KI.pgl {M : Mm} {n : Nat} (h : KI M n) : ∀ j, 0 ≤ j → j < M 54 1 → 1 ≤ M 55 j ∧ M 55 j ≤ 126 := h.2.2.1
theorem KI.sz {M : Mm} {n : Nat} (h : KI M n) : M 54 8 = n := h.2.2.2.1
theorem KI.n6 {M : Mm} {n : Nat} (h : KI M n) : n ≤ 6 := h.2.2.2.2.1
theorem KI.ok {M : Mm} {n : Nat} (h : KI M n) : prOK (mK (M 57)) (mA (M 57)) (mB (M 57)) (mZ (M 57)) n := h.2.2.2.2.2.1
theorem KI.bd {M : Mm} {n : Nat} (h : KI M n) : ∀ j, 0 ≤ j → j < 4 * (n : Int) → -1000 ≤ M 57 j ∧ M 57 j ≤ 1000 := h.2.2.2.2.2.2.1
theorem KI.ol {M : Mm} {n : Nat} (h : KI M n) : M 54 11 = 0 ∨ M 54 11 = 1 := h.2.2.2.2.2.2.2.1
theorem KI.fr {M : Mm} {n : Nat} (h : KI M n) : M 54 11 = 0 → 0 < n → mFS M n := h.2.2.2.2.2.2.2.2.1
theorem KI.sg {M : Mm} {n : Nat} (h : KI M n) : sgA M := h.2.2.2.2.2.2.2.2.2.1
theorem KI.rkb {M : Mm} {n : Nat} (h : KI M n) : ∀ j, 0 ≤ j → j < 15 → -1 ≤ M 64 j ∧ M 64 j ≤ 1000 := h.2.2.2.2.2.2.2.2.2.2.1
theorem KI.sn0 {M : Mm} {n : Nat} (h : KI M n) : 0 ≤ M 54 20 := h.2.2.2.2.2.2.2.2.2.2.2.1
theorem KI.sn1 {M : Mm} {n : Nat} (h : KI M n) : M 54 20 ≤ 6 := h.2.2.2.2.2.2.2.2.2.2.2.2.1
theorem KI.snb {M : Mm} {n : Nat} (h : KI M n) : ∀ j, 0 ≤ j → j < 6 → (-1000 ≤ M 65 (3 * j) ∧ M 65 (3 * j) ≤ 1000) ∧ (0 ≤ M 65 (3 * j + 1) ∧ M 65 (3 * j + 1) ≤ 3) ∧ (M 65 (3 * j + 2) = 0 ∨ M 65 (3 * j + 2) = 1) := h.2.2.2.2.2.2.2.2.2.2.2.2.2.1
theorem KI.pr {M : Mm} {n : Nat} (h : KI M n) : 0 ≤ M 54 9 ∧ M 54 9 ≤ 100000 := h.2.2.2.2.2.2.2.2.2.2.2.2.2.2.1
theorem KI.kp {M : Mm} {n : Nat} (h : KI M n) : -1 ≤ M 54 23 ∧ M 54 23 ≤ M 54 9 := h.2.2.2.2.2.2.2.2.2.2.2.2.2.2.2
theorem KI.mk {M : Mm} {n : Nat} (pg0 : 0 ≤ M 54 1) (pg1 : M 54 1 ≤ 36) (pgl : ∀ j, 0 ≤ j → j < M 54 1 → 1 ≤ M 55 j ∧ M 55 j ≤ 126) (sz : M 54 8 = n) (n6 : n ≤ 6) (ok : prOK (mK (M 57)) (mA (M 57)) (mB (M 57)) (mZ (M 57)) n) (bd : ∀ j, 0 ≤ j → j < 4 * (n : Int) → -1000 ≤ M 57 j ∧ M 57 j ≤ 1000) (ol : M 54 11 = 0 ∨ M 54 11 = 1) (fr : M 54 11 = 0 → 0 < n → mFS M n) (sg : sgA M) (rkb : ∀ j, 0 ≤ j → j < 15 → -1 ≤ M 64 j ∧ M 64 j ≤ 1000) (sn0 : 0 ≤ M 54 20) (sn1 : M 54 20 ≤ 6) (snb : ∀ j, 0 ≤ j → j < 6 → (-1000 ≤ M 65 (3 * j) ∧ M 65 (3 * j) ≤ 1000) ∧ (0 ≤ M 65 (3 * j + 1) ∧ M 65 (3 * j + 1) ≤ 3) ∧ (M 65 (3 * j + 2) = 0 ∨ M 65 (3 * j + 2) = 1)) (pr : 0 ≤ M 54 9 ∧ M 54 9 ≤ 100000) (kp : -1 ≤ M 54 23 ∧ M 54 23 ≤ M 54 9) : KI M n := ⟨pg0, pg1, pgl, sz, n6, ok, bd, ol, fr, sg, rkb, sn0, sn1, snb, pr, kp⟩
theorem KI.fs {M M' : Mm} {n : Nat} (h : KI M n) (hF : FrF M M') (ho : M' 54 11 = 0 ∨ M' 54 11 = 1) (hf : M' 54 11 = 0 → 0 < n → mFS M' n) : KI M' n := by
  have e55 : M' 55 = M 55 := hF.2 55 (by decide) (by decide) (by decide) (by decide) (by decide) (by decide)
  have e57 := hF.p
  have e64 : M' 64 = M 64 := hF.2 64 (by decide) (by decide) (by decide) (by decide) (by decide) (by decide)
  have e65 : M' 65 = M 65 := hF.2 65 (by decide) (by decide) (by decide) (by decide) (by decide) (by decide)
  have f : ∀ j, j ≠ 11 → j ≠ 17 → M' 54 j = M 54 j := hF.1
  apply KI.mk
  case pg0 => rw [f 1 (by decide) (by decide)]; exact h.pg0
  case pg1 => rw [f 1 (by decide) (by decide)]; exact h.pg1
  case pgl => rw [f 1 (by decide) (by decide), e55]; exact h.pgl
  case sz => rw [f 8 (by decide) (by decide)]; exact h.sz
  case n6 => exact h.n6
  case ok => rw [e57]; exact h.ok
  case bd => rw [e57]; exact h.bd
  case ol => exact ho
  case fr => exact hf
  case sg => exact hF.sg h.sg
  case rkb => rw [e64]; exact h.rkb
  case sn0 => rw [f 20 (by decide) (by decide)]; exact h.sn0
  case sn1 => rw [f 20 (by decide) (by decide)]; exact h.sn1
  case snb => rw [e65]; exact h.snb
  case pr => rw [f 9 (by decide) (by decide)]; exact h.pr
  case kp => rw [f 23 (by decide) (by decide), f 9 (by decide) (by decide)]; exact h.kp
/-- the rows are those of A -/
def mFA (M : Mm) (n : Nat) (A : Nat → PS) (r : Int) : Prop := M 54 17 = r ∧ (0 ≤ r ∧ r ≤ 240) ∧ (∀ q, q ≤ n → Oct (A q)) ∧ ∀ q : Nat, q ≤ n → Rw (M 58) q (A q) ∧ M 63 q = crd (A q)
theorem mFS.to {M : Mm} {n : Nat} (h : mFS M n) {A : Nat → PS} {r : Int} (hA : prun (mK (M 57)) (mA (M 57)) (mB (M 57)) (mZ (M 57)) n A r) : mFA M n A r := by
  obtain ⟨B, s, h1, h2, h3, h4, h5⟩ := h
  obtain ⟨e1, e2⟩ := prun_uniq n B A s r h1 hA
  subst e1
  exact ⟨h2, h3, fun q hq => by rw [← e2 q hq]; exact h4 q hq, fun q hq => by rw [← e2 q hq]; exact h5 q hq⟩
def Kq (M M' : Mm) (n : Nat) : Prop := FrF M M' ∧ KI M' n
abbrev mPr (M : Mm) (n : Nat) (A : Nat → PS) (r : Int) : Prop := prun (mK (M 57)) (mA (M 57)) (mB (M 57)) (mZ (M 57)) n A r
theorem Kq.rf {M : Mm} {n : Nat} (h : KI M n) : Kq M M n := ⟨FrF.rf, h⟩
theorem Kq.tr {M M1 M2 : Mm} {n : Nat} (h : Kq M M1 n) (h2 : Kq M1 M2 n) : Kq M M2 n := ⟨h.1.tr h2.1, h2.2⟩
theorem Kq.p {M M1 : Mm} {n : Nat} (h : Kq M M1 n) : M1 57 = M 57 := h.1.p
theorem k_fresh {n : Nat} (hn : 0 < n) (M : Mm) (hK : KI M n) {A : Nat → PS} {r : Int} (hA : mPr M n A r) : Cm mX9_freshen [vR 54] M (fun w M' => w = none ∧ Kq M M' n ∧ mFA M' n A r) := by
  refine cm_mono (k_freshen hK.n6 M hK.sz hK.sg hK.ok hK.ol (fun h => hK.fr h hn)) ?_
  rintro w M' ⟨h1, h2, h3, h4⟩
  exact ⟨h1, ⟨h4, hK.fs h4 (Or.inl h3) (fun _ _ => h2)⟩, h2.to (by rw [h4.p]; exact hA)⟩
theorem k_isPlace {n : Nat} {x : Int} (hx : inR x) (M : Mm) (hK : KI M n) {A : Nat → PS} {r : Int} (hA : 0 < n → mPr M n A r) : Cm mX9_isPlace [vR 54, vI x] M (fun w M' => yn (0 < n ∧ 0 ≤ x ∧ x ≤ n) w ∧ Kq M M' n ∧ (0 < n → mFA M' n A r)) := by
  have hs := hK.sz
  have h6 := hK.n6
  refine cm_of (by decide +kernel) (fun _ => trivial) (Nat.le_of_ble_eq_true rfl) ?_
  first | refine ev_aload_n dX9_isPlace_0 rfl ?_ | refine ev_aloadX_n dX9_isPlace_0 rfl ?_
  refine ev_callv (ci := 9) (k_lacks M (by omega)) dX9_isPlace_1 tX9_lacks.1 kX9_222 tX9_lacks.2.1 tX9_lacks.2.2.1 rfl (by first | rfl | assumption) tX9_lacks.2.2.2 ⟨⟨Nat.le_of_ble_eq_true rfl, Nat.le_of_ble_eq_true rfl⟩, Nat.le_of_ble_eq_true rfl, Nat.le_of_ble_eq_true rfl⟩ rfl (Nat.le_of_ble_eq_true rfl) ?_
  rintro r K' M' P' ⟨rfl, rfl, ⟨v1, rfl, hw1, hv1⟩, hM'⟩
  rw [hM']
  clear hM' M'
  refine ev_if_eq (tgt := 9) dX9_isPlace_4 (by decide) (by omega) (fun hb4 => ?_) (fun hb4 => ?_)
  · have g1 := (not_congr hv1).mp (by omega)
    first | refine ev_aload_n dX9_isPlace_9 rfl ?_ | refine ev_aloadX_n dX9_isPlace_9 rfl ?_
    refine ev_callv (ci := 9) (k_fresh (n := n) (by omega) M hK (hA (by omega))) dX9_isPlace_10 tX9_freshen.1 kX9_226 tX9_freshen.2.1 tX9_freshen.2.2.1 rfl (by first | rfl | assumption) tX9_freshen.2.2.2 ⟨⟨Nat.le_of_ble_eq_true rfl, Nat.le_of_ble_eq_true rfl⟩, Nat.le_of_ble_eq_true rfl, Nat.le_of_ble_eq_true rfl⟩ rfl (Nat.le_of_ble_eq_true rfl) ?_
    rintro w K' M1 P' ⟨rfl, rfl, rfl, q1, q2⟩
    have hs1 := q1.2.sz
    refine ev_iload_n dX9_isPlace_13 rfl ?_
    refine ev_i2l dX9_isPlace_14 (by omega) ?_
    refine ev_lconst (z := 0) dX9_isPlace_15 ?_
    first | refine ev_aload_n dX9_isPlace_16 rfl ?_ | refine ev_aloadX_n dX9_isPlace_16 rfl ?_
    refine ev_gI 8 dX9_isPlace_17 fX9_126 rfl (by first | rfl | assumption) rfl ?_
    refine ev_i2l dX9_isPlace_20 (by omega) ?_
    refine ev_calls (k_in (by omega) (by omega) (by omega) M1) dX9_isPlace_21 tX9_in.1 kX9_60 tX9_in.2.1 tX9_in.2.2 ⟨⟨Nat.le_of_ble_eq_true rfl, Nat.le_of_ble_eq_true rfl⟩, Nat.le_of_ble_eq_true rfl, Nat.le_of_ble_eq_true rfl⟩ rfl (Nat.le_of_ble_eq_true rfl) ?_
    rintro r K' M' P' ⟨rfl, rfl, ⟨v21, rfl, hw21, hv21⟩, hM'⟩
    rw [hM']
    clear hM' M'
    exact ev_ireturn dX9_isPlace_24 (okR_z rfl (by first | exact Or.inl rfl | exact Or.inr rfl | assumption)) (rz ⟨⟨v21, rfl, hw21, by rw [hv21]; omega⟩, q1, fun _ => q2⟩)
  · have g1 := hv1.mp (by omega)
    refine ev_iconst dX9_isPlace_7 ?_
    exact ev_ireturn dX9_isPlace_8 (okR_z rfl (by first | exact Or.inl rfl | exact Or.inr rfl | assumption)) (rz ⟨yn_0 (by omega), Kq.rf hK, fun h => by omega⟩)
theorem crd_em {S : PS} (o : Oct S) : crd S = 0 ↔ ∀ p, ¬ S p := crd_0 (oct_in o)
theorem k_boundOf {n k : Nat} {a b : Int} (hk : k ≤ n) (hn : n ≤ 6) (ha : lit a) (hb : lit b) (M : Mm) (hs : sgA M) {A : Nat → PS} {r : Int} (hF : mFA M n A r) : Cm mX9_boundOf [vR 54, vI (k : Int), vI a, vI b] M (fun w M' => w = some (vI (bnV (A k) (a * 6 + b))) ∧ M' = M) := by
  obtain ⟨-, -, hO, hR⟩ := hF
  obtain ⟨h1, h2⟩ := hR k hk
  have hc := crd_rng (A k)
  have hz := crd_em (hO k hk)
  refine cm_of (by decide +kernel) (fun _ => trivial) (Nat.le_of_ble_eq_true rfl) ?_
  first | refine ev_aload_n dX9_boundOf_0 rfl ?_ | refine ev_aloadX_n dX9_boundOf_0 rfl ?_
  refine ev_getR dX9_boundOf_1 fX9_35 rfl (by first | rfl | assumption) (by first | rfl | assumption) ?_
  refine ev_iload_n dX9_boundOf_4 rfl ?_
  refine ev_iaload dX9_boundOf_5 (by first | rfl | assumption) (by omega) (by omega) (by decide) ?_
  rw [h2]
  refine ev_if_ne (tgt := 13) dX9_boundOf_6 (by decide) (by omega) (fun hb6 => ?_) (fun hb6 => ?_)
  · refine ev_bipush dX9_boundOf_13 ?_
    first | refine ev_aload_n dX9_boundOf_15 rfl ?_ | refine ev_aloadX_n dX9_boundOf_15 rfl ?_
    refine ev_iload_n dX9_boundOf_16 rfl ?_
    refine ev_iload_n dX9_boundOf_17 rfl ?_
    refine ev_iload_n dX9_boundOf_18 rfl ?_
    refine ev_callv (ci := 9) (k_boundIn (by omega) ha hb M hs h1) dX9_boundOf_19 tX9_boundIn.1 kX9_229 tX9_boundIn.2.1 tX9_boundIn.2.2.1 rfl (by first | rfl | assumption) tX9_boundIn.2.2.2 ⟨⟨Nat.le_of_ble_eq_true rfl, Nat.le_of_ble_eq_true rfl⟩, Nat.le_of_ble_eq_true rfl, Nat.le_of_ble_eq_true rfl⟩ rfl (Nat.le_of_ble_eq_true rfl) ?_
    rintro r K' M' P' ⟨rfl, rfl, rfl, hM'⟩
    rw [hM']
    clear hM' M'
    refine ev_iadd dX9_boundOf_22 ?_
    exact ev_ireturn dX9_boundOf_23 ⟨_, rfl, rfl⟩ (rz ⟨by (unfold bnV; first | rw [if_pos (hz.mp (by omega))] | (rw [if_neg (fun z => by have := hz.mpr z; omega), Int.add_comm])), rfl⟩)
  · refine ev_iconst dX9_boundOf_9 ?_
    refine ev_goto (tgt := 23) dX9_boundOf_10 (by decide) ?_
    exact ev_ireturn dX9_boundOf_23 ⟨_, rfl, rfl⟩ (rz ⟨by (unfold bnV; first | rw [if_pos (hz.mp (by omega))] | (rw [if_neg (fun z => by have := hz.mpr z; omega), Int.add_comm])), rfl⟩)
noncomputable def kBn (n : Nat) (A : Nat → PS) (x a b : Int) : Int := if ¬ (0 < n ∧ 0 ≤ x ∧ x ≤ n) then -101 else if ¬ (lit a ∧ lit b) then -102 else bnV (A x.toNat) (a * 6 + b)
theorem k_bound {n : Nat} {x a b : Int} (hx : inR x) (ha : inR a) (hb : inR b) (M : Mm) (hK : KI M n) {A : Nat → PS} {r : Int} (hA : 0 < n → mPr M n A r) : Cm mX9_bound [vR 54, vI x, vI a, vI b] M (fun w M' => w = some (vI (kBn n A x a b)) ∧ Kq M M' n) := by
  unfold kBn
  refine cm_of (by decide +kernel) (fun _ => trivial) (Nat.le_of_ble_eq_true rfl) ?_
  first | refine ev_aload_n dX9_bound_0 rfl ?_ | refine ev_aloadX_n dX9_bound_0 rfl ?_
  refine ev_iload_n dX9_bound_1 rfl ?_
  refine ev_callv (ci := 9) (k_isPlace hx M hK hA) dX9_bound_2 tX9_isPlace.1 kX9_232 tX9_isPlace.2.1 tX9_isPlace.2.2.1 rfl (by first | rfl | assumption) tX9_isPlace.2.2.2 ⟨⟨Nat.le_of_ble_eq_true rfl, Nat.le_of_ble_eq_true rfl⟩, Nat.le_of_ble_eq_true rfl, Nat.le_of_ble_eq_true rfl⟩ rfl (Nat.le_of_ble_eq_true rfl) ?_
  rintro w K' M1 P' ⟨rfl, rfl, ⟨v2, rfl, hw2, hv2⟩, q1, q2⟩
  refine ev_if_ne (tgt := 11) dX9_bound_5 (by decide) (by omega) (fun hb5 => ?_) (fun hb5 => ?_)
  · refine ev_iload_n dX9_bound_11 rfl ?_
    refine ev_i2l dX9_bound_12 (by omega) ?_
    refine ev_lconst (z := 0) dX9_bound_13 ?_
    refine ev_ldc2 (z := 5) dX9_bound_14 jX9_235 (by decide) ?_
    refine ev_calls (k_in (by omega) (by omega) (by omega) M1) dX9_bound_17 tX9_in.1 kX9_60 tX9_in.2.1 tX9_in.2.2 ⟨⟨Nat.le_of_ble_eq_true rfl, Nat.le_of_ble_eq_true rfl⟩, Nat.le_of_ble_eq_true rfl, Nat.le_of_ble_eq_true rfl⟩ rfl (Nat.le_of_ble_eq_true rfl) ?_
    rintro r K' M' P' ⟨rfl, rfl, ⟨v17, rfl, hw17, hv17⟩, hM'⟩
    rw [hM']
    clear hM' M'
    refine ev_if_eq (tgt := 45) dX9_bound_20 (by decide) (by omega) (fun hb20 => ?_) (fun hb20 => ?_)
    · have g17 := (not_congr hv17).mp (by omega)
      refine ev_bipush dX9_bound_45 ?_
      exact ev_ireturn dX9_bound_47 ⟨_, rfl, rfl⟩ (rz ⟨by first | (rw [if_neg (fun z => z g2), if_neg (by omega)]; rfl) | rw [if_neg (fun z => z (hv2.mp (by omega))), if_pos (by omega)], q1⟩)
    · have g17 := hv17.mp (by omega)
      refine ev_iload_n dX9_bound_23 rfl ?_
      refine ev_i2l dX9_bound_24 (by omega) ?_
      refine ev_lconst (z := 0) dX9_bound_25 ?_
      refine ev_ldc2 (z := 5) dX9_bound_26 jX9_235 (by decide) ?_
      refine ev_calls (k_in (by omega) (by omega) (by omega) M1) dX9_bound_29 tX9_in.1 kX9_60 tX9_in.2.1 tX9_in.2.2 ⟨⟨Nat.le_of_ble_eq_true rfl, Nat.le_of_ble_eq_true rfl⟩, Nat.le_of_ble_eq_true rfl, Nat.le_of_ble_eq_true rfl⟩ rfl (Nat.le_of_ble_eq_true rfl) ?_
      rintro r K' M' P' ⟨rfl, rfl, ⟨v29, rfl, hw29, hv29⟩, hM'⟩
      rw [hM']
      clear hM' M'
      refine ev_if_eq (tgt := 45) dX9_bound_32 (by decide) (by omega) (fun hb32 => ?_) (fun hb32 => ?_)
      · have g29 := (not_congr hv29).mp (by omega)
        refine ev_bipush dX9_bound_45 ?_
        exact ev_ireturn dX9_bound_47 ⟨_, rfl, rfl⟩ (rz ⟨by first | (rw [if_neg (fun z => z g2), if_neg (by omega)]; rfl) | rw [if_neg (fun z => z (hv2.mp (by omega))), if_pos (by omega)], q1⟩)
      · have g29 := hv29.mp (by omega)
        have g2 := hv2.mp (by omega)
        obtain ⟨k, rfl⟩ := Int.eq_ofNat_of_zero_le g2.2.1
        first | refine ev_aload_n dX9_bound_35 rfl ?_ | refine ev_aloadX_n dX9_bound_35 rfl ?_
        refine ev_iload_n dX9_bound_36 rfl ?_
        refine ev_iload_n dX9_bound_37 rfl ?_
        refine ev_iload_n dX9_bound_38 rfl ?_
        refine ev_callv (ci := 9) (k_boundOf (n := n) (k := k) (by omega) hK.n6 (by omega) (by omega) M1 q1.2.sg (q2 (by omega))) dX9_bound_39 tX9_boundOf.1 kX9_237 tX9_boundOf.2.1 tX9_boundOf.2.2.1 rfl (by first | rfl | assumption) tX9_boundOf.2.2.2 ⟨⟨Nat.le_of_ble_eq_true rfl, Nat.le_of_ble_eq_true rfl⟩, Nat.le_of_ble_eq_true rfl, Nat.le_of_ble_eq_true rfl⟩ rfl (Nat.le_of_ble_eq_true rfl) ?_
        rintro r K' M' P' ⟨rfl, rfl, rfl, hM'⟩
        rw [hM']
        clear hM' M'
        refine ev_goto (tgt := 47) dX9_bound_42 (by decide) ?_
        exact ev_ireturn dX9_bound_47 ⟨_, rfl, rfl⟩ (rz ⟨by first | (rw [if_neg (fun z => z g2), if_neg (by omega)]; rfl) | rw [if_neg (fun z => z (hv2.mp (by omega))), if_pos (by omega)], q1⟩)
  · refine ev_bipush dX9_bound_8 ?_
    exact ev_ireturn dX9_bound_10 ⟨_, rfl, rfl⟩ (rz ⟨by rw [if_pos ((not_congr hv2).mp (by omega))], q1⟩)
noncomputable def kPt (n : Nat) (A : Nat → PS) (x : Int) : Int := if ¬ (0 < n ∧ 0 ≤ x ∧ x ≤ n) then -101 else crd (A x.toNat)
theorem k_points {n : Nat} {x : Int} (hx : inR x) (M : Mm) (hK : KI M n) {A : Nat → PS} {r : Int} (hA : 0 < n → mPr M n A r) : Cm mX9_points [vR 54, vI x] M (fun w M' => w = some (vI (kPt n A x)) ∧ Kq M M' n) := by
  have h6 := hK.n6
  unfold kPt
  refine cm_of (by decide +kernel) (fun _ => trivial) (Nat.le_of_ble_eq_true rfl) ?_
  first | refine ev_aload_n dX9_points_0 rfl ?_ | refine ev_aloadX_n dX9_points_0 rfl ?_
  refine ev_iload_n dX9_points_1 rfl ?_
  refine ev_callv (ci := 9) (k_isPlace hx M hK hA) dX9_points_2 tX9_isPlace.1 kX9_232 tX9_isPlace.2.1 tX9_isPlace.2.2.1 rfl (by first | rfl | assumption) tX9_isPlace.2.2.2 ⟨⟨Nat.le_of_ble_eq_true rfl, Nat.le_of_ble_eq_true rfl⟩, Nat.le_of_ble_eq_true rfl, Nat.le_of_ble_eq_true rfl⟩ rfl (Nat.le_of_ble_eq_true rfl) ?_
  rintro w K' M1 P' ⟨rfl, rfl, ⟨v2, rfl, hw2, hv2⟩, q1, q2⟩
  refine ev_if_eq (tgt := 17) dX9_points_5 (by decide) (by omega) (fun hb5 => ?_) (fun hb5 => ?_)
  · refine ev_bipush dX9_points_17 ?_
    exact ev_ireturn dX9_points_19 ⟨_, rfl, rfl⟩ (rz ⟨by first | rw [if_pos ((not_congr hv2).mp (by omega))] | (rw [if_neg (fun z => z (hv2.mp (by omega)))]; rfl), q1⟩)
  · have g2 := hv2.mp (by omega)
    obtain ⟨k, rfl⟩ := Int.eq_ofNat_of_zero_le g2.2.1
    have hR := ((q2 (by omega)).2.2.2 k (by omega)).2
    first | refine ev_aload_n dX9_points_8 rfl ?_ | refine ev_aloadX_n dX9_points_8 rfl ?_
    refine ev_getR dX9_points_9 fX9_35 rfl (by first | rfl | assumption) (by first | rfl | assumption) ?_
    refine ev_iload_n dX9_points_12 rfl ?_
    refine ev_iaload dX9_points_13 (by first | rfl | assumption) (by omega) (by omega) (by decide) ?_
    rw [hR]
    refine ev_goto (tgt := 19) dX9_points_14 (by decide) ?_
    exact ev_ireturn dX9_points_19 ⟨_, rfl, rfl⟩ (rz ⟨by first | rw [if_pos ((not_congr hv2).mp (by omega))] | (rw [if_neg (fun z => z (hv2.mp (by omega)))]; rfl), q1⟩)
noncomputable def kHs (n : Nat) (A : Nat → PS) (x a b c : Int) : Int := if ¬ (0 < n ∧ 0 ≤ x ∧ x ≤ n) then -101 else if ¬ ((-8 ≤ a ∧ a ≤ 8) ∧ (-8 ≤ b ∧ b ≤ 8) ∧ (-8 ≤ c ∧ c ≤ 8)) then -102 else ind (A x.toNat) (ptN a b c)
theorem k_has {n : Nat} {x a b c : Int} (hx : inR x) (ha : inR a) (hb : inR b) (hc : inR c) (M : Mm) (hK : KI M n) {A : Nat → PS} {r : Int} (hA : 0 < n → mPr M n A r) : Cm mX9_has [vR 54, vI x, vI a, vI b, vI c] M (fun w M' => w = some (vI (kHs n A x a b c)) ∧ Kq M M' n) := by
  have h6 := hK.n6
  unfold kHs
  refine cm_of (by decide +kernel) (fun _ => trivial) (Nat.le_of_ble_eq_true rfl) ?_
  first | refine ev_aload_n dX9_has_0 rfl ?_ | refine ev_aloadX_n dX9_has_0 rfl ?_
  refine ev_iload_n dX9_has_1 rfl ?_
  refine ev_callv (ci := 9) (k_isPlace hx M hK hA) dX9_has_2 tX9_isPlace.1 kX9_232 tX9_isPlace.2.1 tX9_isPlace.2.2.1 rfl (by first | rfl | assumption) tX9_isPlace.2.2.2 ⟨⟨Nat.le_of_ble_eq_true rfl, Nat.le_of_ble_eq_true rfl⟩, Nat.le_of_ble_eq_true rfl, Nat.le_of_ble_eq_true rfl⟩ rfl (Nat.le_of_ble_eq_true rfl) ?_
  rintro w K' M1 P' ⟨rfl, rfl, ⟨v2, rfl, hw2, hv2⟩, q1, q2⟩
  refine ev_if_ne (tgt := 11) dX9_has_5 (by decide) (by omega) (fun hb5 => ?_) (fun hb5 => ?_)
  · refine ev_iload_n dX9_has_11 rfl ?_
    refine ev_i2l dX9_has_12 (by omega) ?_
    refine ev_ldc2 (z := -8) dX9_has_13 jX9_169 (by decide) ?_
    refine ev_ldc2 (z := 8) dX9_has_16 jX9_171 (by decide) ?_
    refine ev_calls (k_in (by omega) (by omega) (by omega) M1) dX9_has_19 tX9_in.1 kX9_60 tX9_in.2.1 tX9_in.2.2 ⟨⟨Nat.le_of_ble_eq_true rfl, Nat.le_of_ble_eq_true rfl⟩, Nat.le_of_ble_eq_true rfl, Nat.le_of_ble_eq_true rfl⟩ rfl (Nat.le_of_ble_eq_true rfl) ?_
    rintro r K' M' P' ⟨rfl, rfl, ⟨v19, rfl, hw19, hv19⟩, hM'⟩
    rw [hM']
    clear hM' M'
    refine ev_if_eq (tgt := 54) dX9_has_22 (by decide) (by omega) (fun hb22 => ?_) (fun hb22 => ?_)
    · have g19 := (not_congr hv19).mp (by omega)
      refine ev_bipush dX9_has_54 ?_
      exact ev_ireturn dX9_has_56 ⟨_, rfl, rfl⟩ (rz ⟨by rw [if_neg (fun z => z (hv2.mp (by omega))), if_pos (by omega)], q1⟩)
    · have g19 := hv19.mp (by omega)
      refine ev_iload_n dX9_has_25 rfl ?_
      refine ev_i2l dX9_has_26 (by omega) ?_
      refine ev_ldc2 (z := -8) dX9_has_27 jX9_169 (by decide) ?_
      refine ev_ldc2 (z := 8) dX9_has_30 jX9_171 (by decide) ?_
      refine ev_calls (k_in (by omega) (by omega) (by omega) M1) dX9_has_33 tX9_in.1 kX9_60 tX9_in.2.1 tX9_in.2.2 ⟨⟨Nat.le_of_ble_eq_true rfl, Nat.le_of_ble_eq_true rfl⟩, Nat.le_of_ble_eq_true rfl, Nat.le_of_ble_eq_true rfl⟩ rfl (Nat.le_of_ble_eq_true rfl) ?_
      rintro r K' M' P' ⟨rfl, rfl, ⟨v33, rfl, hw33, hv33⟩, hM'⟩
      rw [hM']
      clear hM' M'
      refine ev_if_eq (tgt := 54) dX9_has_36 (by decide) (by omega) (fun hb36 => ?_) (fun hb36 => ?_)
      · have g33 := (not_congr hv33).mp (by omega)
        refine ev_bipush dX9_has_54 ?_
        exact ev_ireturn dX9_has_56 ⟨_, rfl, rfl⟩ (rz ⟨by rw [if_neg (fun z => z (hv2.mp (by omega))), if_pos (by omega)], q1⟩)
      · have g33 := hv33.mp (by omega)
        refine ev_iload dX9_has_39 rfl ?_
        refine ev_i2l dX9_has_41 (by omega) ?_
        refine ev_ldc2 (z := -8) dX9_has_42 jX9_169 (by decide) ?_
        refine ev_ldc2 (z := 8) dX9_has_45 jX9_171 (by decide) ?_
        refine ev_calls (k_in (by omega) (by omega) (by omega) M1) dX9_has_48 tX9_in.1 kX9_60 tX9_in.2.1 tX9_in.2.2 ⟨⟨Nat.le_of_ble_eq_true rfl, Nat.le_of_ble_eq_true rfl⟩, Nat.le_of_ble_eq_true rfl, Nat.le_of_ble_eq_true rfl⟩ rfl (Nat.le_of_ble_eq_true rfl) ?_
        rintro r K' M' P' ⟨rfl, rfl, ⟨v48, rfl, hw48, hv48⟩, hM'⟩
        rw [hM']
        clear hM' M'
        refine ev_if_ne (tgt := 57) dX9_has_51 (by decide) (by omega) (fun hb51 => ?_) (fun hb51 => ?_)
        · have g48 := hv48.mp (by omega)
          have g2 := hv2.mp (by omega)
          obtain ⟨k, rfl⟩ := Int.eq_ofNat_of_zero_le g2.2.1
          have hR := ((q2 (by omega)).2.2.2 k (by omega)).1
          have hp := (ptN_ok (x := a) (y := b) (z := c) (by omega) (by omega) (by omega)).1
          have hv := hR _ hp
          first | refine ev_aload_n dX9_has_57 rfl ?_ | refine ev_aloadX_n dX9_has_57 rfl ?_
          refine ev_getR dX9_has_58 fX9_20 rfl (by first | rfl | assumption) (by first | rfl | assumption) ?_
          refine ev_sipush dX9_has_61 ?_
          refine ev_iload_n dX9_has_64 rfl ?_
          refine ev_imul dX9_has_65 ?_
          refine ev_iload_n dX9_has_66 rfl ?_
          refine ev_iload_n dX9_has_67 rfl ?_
          refine ev_iload dX9_has_68 rfl ?_
          refine ev_calls (k_pointOf M1) dX9_has_70 tX9_pointOf.1 kX9_240 tX9_pointOf.2.1 tX9_pointOf.2.2 ⟨⟨Nat.le_of_ble_eq_true rfl, Nat.le_of_ble_eq_true rfl⟩, Nat.le_of_ble_eq_true rfl, Nat.le_of_ble_eq_true rfl⟩ rfl (Nat.le_of_ble_eq_true rfl) ?_
          rintro r K' M' P' ⟨rfl, rfl, rfl, hM'⟩
          rw [hM']
          clear hM' M'
          refine ev_iadd dX9_has_73 ?_
          refine ev_iaload dX9_has_74 (by first | rfl | assumption) (by omega) (by omega) (by decide) ?_
          rw [hv]
          exact ev_ireturn dX9_has_75 ⟨_, rfl, rfl⟩ (rz ⟨by rw [if_neg (fun z => z g2), if_neg (by omega)]; rfl, q1⟩)
        · have g48 := (not_congr hv48).mp (by omega)
          refine ev_bipush dX9_has_54 ?_
          exact ev_ireturn dX9_has_56 ⟨_, rfl, rfl⟩ (rz ⟨by rw [if_neg (fun z => z (hv2.mp (by omega))), if_pos (by omega)], q1⟩)
  · refine ev_bipush dX9_has_8 ?_
    exact ev_ireturn dX9_has_10 ⟨_, rfl, rfl⟩ (rz ⟨by rw [if_pos ((not_congr hv2).mp (by omega))], q1⟩)
theorem k_dead {n k : Nat} (hk : k ≤ n) (hn : n ≤ 6) (M : Mm) {A : Nat → PS} {r : Int} (hF : mFA M n A r) : Cm mX9_dead [vR 54, vI (k : Int)] M (fun w M' => w = some (vI (deadV A k)) ∧ M' = M) := by
  obtain ⟨-, -, hO, hR⟩ := hF
  obtain ⟨h1, h2⟩ := hR k hk
  have hc := crd_rng (A k)
  have hz := crd_em (hO k hk)
  have ek : ((k : Int)).toNat = k := by omega
  refine cm_of (by decide +kernel) (fun _ => trivial) (Nat.le_of_ble_eq_true rfl) ?_
  first | refine ev_aload_n dX9_dead_0 rfl ?_ | refine ev_aloadX_n dX9_dead_0 rfl ?_
  refine ev_getR dX9_dead_1 fX9_35 rfl (by first | rfl | assumption) (by first | rfl | assumption) ?_
  refine ev_iload_n dX9_dead_4 rfl ?_
  refine ev_iaload dX9_dead_5 (by first | rfl | assumption) (by omega) (by omega) (by decide) ?_
  rw [h2]
  refine ev_if_ne (tgt := 13) dX9_dead_6 (by decide) (by omega) (fun hb6 => ?_) (fun hb6 => ?_)
  · refine ev_iconst dX9_dead_13 ?_
    exact ev_ireturn dX9_dead_14 ⟨_, rfl, rfl⟩ (rz ⟨by (unfold deadV; rw [ek]; first | rw [b01_1 (hz.mp (by omega))] | rw [b01_0 (fun z => by have := hz.mpr z; omega)]), rfl⟩)
  · refine ev_iconst dX9_dead_9 ?_
    refine ev_goto (tgt := 14) dX9_dead_10 (by decide) ?_
    exact ev_ireturn dX9_dead_14 ⟨_, rfl, rfl⟩ (rz ⟨by (unfold deadV; rw [ek]; first | rw [b01_1 (hz.mp (by omega))] | rw [b01_0 (fun z => by have := hz.mpr z; omega)]), rfl⟩)
theorem k_idle {n k : Nat} (hk : k < n) (hn : n ≤ 6) (M : Mm) (hb : ∀ j, 0 ≤ j → j < 4 * (n : Int) → -1000 ≤ M 57 j ∧ M 57 j ≤ 1000) {A : Nat → PS} {r : Int} (hF : mFA M n A r) : Cm mX9_idle [vR 54, vI (k : Int)] M (fun w M' => w = some (vI (idleV (mK (M 57)) A k)) ∧ M' = M) := by
  obtain ⟨-, -, hO, hR⟩ := hF
  obtain ⟨h1, h2⟩ := hR k (by omega)
  obtain ⟨h3, h4⟩ := hR (k + 1) (by omega)
  have h4' : M 63 ((k : Int) + 1) = crd (A (k + 1)) := h4
  have hc := crd_rng (A k)
  have hc' := crd_rng (A (k + 1))
  have hz := crd_em (hO k (by omega))
  have ek : ((k : Int)).toNat = k := by omega
  have e1 : M 57 (4 * (k : Int)) = mK (M 57) k := rfl
  have hb' := hb (4 * (k : Int)) (by omega) (by omega)
  rw [e1] at hb'
  have n0 : ¬ (mK (M 57) k ≠ 4 ∧ (∃ p, A k p) ∧ A k = A (k + 1)) → 0 = idleV (mK (M 57)) A k := fun h => by unfold idleV; rw [ek, b01_0 h]
  have n1 : (mK (M 57) k ≠ 4 ∧ (∃ p, A k p) ∧ A k = A (k + 1)) → 1 = idleV (mK (M 57)) A k := fun h => by unfold idleV; rw [ek, b01_1 h]
  refine cm_of (by decide +kernel) (fun _ => trivial) (Nat.le_of_ble_eq_true rfl) ?_
  first | refine ev_aload_n dX9_idle_0 rfl ?_ | refine ev_aloadX_n dX9_idle_0 rfl ?_
  refine ev_iload_n dX9_idle_1 rfl ?_
  refine ev_callv (ci := 9) (k_kind (by omega) (by omega) M) dX9_idle_2 tX9_kind.1 kX9_146 tX9_kind.2.1 tX9_kind.2.2.1 rfl (by first | rfl | assumption) tX9_kind.2.2.2 ⟨⟨Nat.le_of_ble_eq_true rfl, Nat.le_of_ble_eq_true rfl⟩, Nat.le_of_ble_eq_true rfl, Nat.le_of_ble_eq_true rfl⟩ rfl (Nat.le_of_ble_eq_true rfl) ?_
  rintro r K' M' P' ⟨rfl, rfl, rfl, hM'⟩
  rw [hM']
  clear hM' M'
  rw [e1]
  refine ev_iconst dX9_idle_5 ?_
  refine ev_icmp_eq (tgt := 50) dX9_idle_6 (by decide) (by omega) (by omega) (fun hb6 => ?_) (fun hb6 => ?_)
  · refine ev_iconst dX9_idle_50 ?_
    exact ev_ireturn dX9_idle_51 ⟨_, rfl, rfl⟩ (rz ⟨by refine congrArg (fun z => some (vI z)) ?_; first | exact n1 ⟨by omega, Classical.byContradiction (fun z => by have := hz.mpr (fun p hp => z ⟨p, hp⟩); omega), g40⟩ | exact n0 (fun z => by omega) | exact n0 (fun z => g40 z.2.2) | exact n0 (fun z => by have := z.2.2; rw [this] at hb32; exact hb32 rfl) | exact n0 (fun z => by obtain ⟨p, hp⟩ := z.2.1; exact hz.mp (by omega) p hp), rfl⟩)
  · first | refine ev_aload_n dX9_idle_9 rfl ?_ | refine ev_aloadX_n dX9_idle_9 rfl ?_
    refine ev_getR dX9_idle_10 fX9_35 rfl (by first | rfl | assumption) (by first | rfl | assumption) ?_
    refine ev_iload_n dX9_idle_13 rfl ?_
    refine ev_iaload dX9_idle_14 (by first | rfl | assumption) (by omega) (by omega) (by decide) ?_
    rw [h2]
    refine ev_if_le (tgt := 50) dX9_idle_15 (by decide) (by omega) (fun hb15 => ?_) (fun hb15 => ?_)
    · refine ev_iconst dX9_idle_50 ?_
      exact ev_ireturn dX9_idle_51 ⟨_, rfl, rfl⟩ (rz ⟨by refine congrArg (fun z => some (vI z)) ?_; first | exact n1 ⟨by omega, Classical.byContradiction (fun z => by have := hz.mpr (fun p hp => z ⟨p, hp⟩); omega), g40⟩ | exact n0 (fun z => by omega) | exact n0 (fun z => g40 z.2.2) | exact n0 (fun z => by have := z.2.2; rw [this] at hb32; exact hb32 rfl) | exact n0 (fun z => by obtain ⟨p, hp⟩ := z.2.1; exact hz.mp (by omega) p hp), rfl⟩)
    · first | refine ev_aload_n dX9_idle_18 rfl ?_ | refine ev_aloadX_n dX9_idle_18 rfl ?_
      refine ev_getR dX9_idle_19 fX9_35 rfl (by first | rfl | assumption) (by first | rfl | assumption) ?_
      refine ev_iload_n dX9_idle_22 rfl ?_
      refine ev_iaload dX9_idle_23 (by first | rfl | assumption) (by omega) (by omega) (by decide) ?_
      rw [h2]
      first | refine ev_aload_n dX9_idle_24 rfl ?_ | refine ev_aloadX_n dX9_idle_24 rfl ?_
      refine ev_getR dX9_idle_25 fX9_35 rfl (by first | rfl | assumption) (by first | rfl | assumption) ?_
      refine ev_iload_n dX9_idle_28 rfl ?_
      refine ev_iconst dX9_idle_29 ?_
      refine ev_iadd dX9_idle_30 ?_
      refine ev_iaload dX9_idle_31 (by first | rfl | assumption) (by omega) (by omega) (by decide) ?_
      rw [h4']
      refine ev_icmp_ne (tgt := 50) dX9_idle_32 (by decide) (by omega) (by omega) (fun hb32 => ?_) (fun hb32 => ?_)
      · refine ev_iconst dX9_idle_50 ?_
        exact ev_ireturn dX9_idle_51 ⟨_, rfl, rfl⟩ (rz ⟨by refine congrArg (fun z => some (vI z)) ?_; first | exact n1 ⟨by omega, Classical.byContradiction (fun z => by have := hz.mpr (fun p hp => z ⟨p, hp⟩); omega), g40⟩ | exact n0 (fun z => by omega) | exact n0 (fun z => g40 z.2.2) | exact n0 (fun z => by have := z.2.2; rw [this] at hb32; exact hb32 rfl) | exact n0 (fun z => by obtain ⟨p, hp⟩ := z.2.1; exact hz.mp (by omega) p hp), rfl⟩)
      · first | refine ev_aload_n dX9_idle_35 rfl ?_ | refine ev_aloadX_n dX9_idle_35 rfl ?_
        refine ev_iload_n dX9_idle_36 rfl ?_
        refine ev_iload_n dX9_idle_37 rfl ?_
        refine ev_iconst dX9_idle_38 ?_
        refine ev_iadd dX9_idle_39 ?_
        refine ev_callv (ci := 9) (k_isLike (k := k) (t := k + 1) (by omega) (by omega) M h1 h3 (oct_in (hO k (by omega))) (oct_in (hO (k + 1) (by omega)))) dX9_idle_40 tX9_isLike.1 kX9_208 tX9_isLike.2.1 tX9_isLike.2.2.1 rfl (by first | rfl | assumption) tX9_isLike.2.2.2 ⟨⟨Nat.le_of_ble_eq_true rfl, Nat.le_of_ble_eq_true rfl⟩, Nat.le_of_ble_eq_true rfl, Nat.le_of_ble_eq_true rfl⟩ rfl (Nat.le_of_ble_eq_true rfl) ?_
        rintro r K' M' P' ⟨rfl, rfl, ⟨v40, rfl, hw40, hv40⟩, hM'⟩
        rw [hM']
        clear hM' M'
        refine ev_if_eq (tgt := 50) dX9_idle_43 (by decide) (by omega) (fun hb43 => ?_) (fun hb43 => ?_)
        · have g40 := (not_congr hv40).mp (by omega)
          refine ev_iconst dX9_idle_50 ?_
          exact ev_ireturn dX9_idle_51 ⟨_, rfl, rfl⟩ (rz ⟨by refine congrArg (fun z => some (vI z)) ?_; first | exact n1 ⟨by omega, Classical.byContradiction (fun z => by have := hz.mpr (fun p hp => z ⟨p, hp⟩); omega), g40⟩ | exact n0 (fun z => by omega) | exact n0 (fun z => g40 z.2.2) | exact n0 (fun z => by have := z.2.2; rw [this] at hb32; exact hb32 rfl) | exact n0 (fun z => by obtain ⟨p, hp⟩ := z.2.1; exact hz.mp (by omega) p hp), rfl⟩)
        · have g40 := hv40.mp (by omega)
          refine ev_iconst dX9_idle_46 ?_
          refine ev_goto (tgt := 51) dX9_idle_47 (by decide) ?_
          exact ev_ireturn dX9_idle_51 ⟨_, rfl, rfl⟩ (rz ⟨by refine congrArg (fun z => some (vI z)) ?_; first | exact n1 ⟨by omega, Classical.byContradiction (fun z => by have := hz.mpr (fun p hp => z ⟨p, hp⟩); omega), g40⟩ | exact n0 (fun z => by omega) | exact n0 (fun z => g40 z.2.2) | exact n0 (fun z => by have := z.2.2; rw [this] at hb32; exact hb32 rfl) | exact n0 (fun z => by obtain ⟨p, hp⟩ := z.2.1; exact hz.mp (by omega) p hp), rfl⟩)
