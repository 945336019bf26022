/-! ===== Run: what is asked of shapes; the whole run ===== -/
theorem c_isDead {k : Nat} (hk : k ≤ 6) (M : Mm) (he : M (aC k) 1 = 0 ∨ M (aC k) 1 = 1) : Cm mX4_isDead [vR 14, vI (k : Int)] M (fun r M' => yn (M (aC k) 1 = 1) r ∧ M' = M) := by
  have sk := sh_aC hk
  have kk := sk.1
  have pk := pp_aC hk
  refine cm_of (by decide +kernel) (fun _ => trivial) (Nat.le_of_ble_eq_true rfl) ?_
  first | refine ev_aload_n dX4_isDead_0 rfl ?_ | refine ev_aloadX_n dX4_isDead_0 rfl ?_
  refine ev_getR dX4_isDead_1 fX4_11 rfl (by first | rfl | assumption) (by first | rfl | assumption) ?_
  refine ev_iload_n dX4_isDead_4 rfl ?_
  refine ev_aaload dX4_isDead_5 (by first | rfl | assumption) (by omega) (by omega) (by decide) (by first | rfl | assumption) ?_
  refine ev_gI 1 dX4_isDead_6 fX4_48 rfl (by first | rfl | assumption) rfl ?_
  refine ev_ireturn dX4_isDead_9 (okR_z rfl he) (rz ⟨⟨_, rfl, he, Iff.rfl⟩, rfl⟩)
theorem c_kills {k : Nat} (hk : k < 6) (M : Mm) (he : M (aC k) 1 = 0 ∨ M (aC k) 1 = 1) (he2 : M (aC (k + 1)) 1 = 0 ∨ M (aC (k + 1)) 1 = 1) : Cm mX4_kills [vR 14, vI (k : Int)] M (fun r M' => yn (M (aC k) 1 = 0 ∧ M (aC (k + 1)) 1 = 1) r ∧ M' = M) := by
  have sk := (sh_aC (k := k) (by omega)).1
  have sk1 := (sh_aC (k := k + 1) (by omega)).1
  have pk := pp_aC (k := k) (by omega)
  have pk1 : PP 15 ((k : Int) + 1) = some (aC (k + 1)) := pp_aC (k := k + 1) (by omega)
  refine cm_of (by decide +kernel) (fun _ => trivial) (Nat.le_of_ble_eq_true rfl) ?_
  have no : ¬ (M (aC k) 1 = 0 ∧ M (aC (k + 1)) 1 = 1) → Ev mX4_kills 30 [some (vR 14), some (vI (k : Int))] [] KK M PP 0 0 (Rz mX4_kills (fun r M' => yn (M (aC k) 1 = 0 ∧ M (aC (k + 1)) 1 = 1) r ∧ M' = M)) := by
    intro h
    refine ev_iconst dX4_kills_30 ?_
    exact ev_ireturn dX4_kills_31 (okR_z rfl (by first | exact Or.inl rfl | exact Or.inr rfl | assumption)) (rz ⟨yn_0 h, rfl⟩)
  first | refine ev_aload_n dX4_kills_0 rfl ?_ | refine ev_aloadX_n dX4_kills_0 rfl ?_
  refine ev_getR dX4_kills_1 fX4_11 rfl (by first | rfl | assumption) (by first | rfl | assumption) ?_
  refine ev_iload_n dX4_kills_4 rfl ?_
  refine ev_aaload dX4_kills_5 (by first | rfl | assumption) (by omega) (by omega) (by decide) (by first | rfl | assumption) ?_
  refine ev_gI 1 dX4_kills_6 fX4_48 rfl (by first | rfl | assumption) rfl ?_
  refine ev_if_ne (tgt := 30) dX4_kills_9 (by decide) (by omega) (fun h1 => ?_) (fun h1 => ?_)
  · exact no (fun z => h1 z.1)
  first | refine ev_aload_n dX4_kills_12 rfl ?_ | refine ev_aloadX_n dX4_kills_12 rfl ?_
  refine ev_getR dX4_kills_13 fX4_11 rfl (by first | rfl | assumption) (by first | rfl | assumption) ?_
  refine ev_iload_n dX4_kills_16 rfl ?_
  refine ev_iconst dX4_kills_17 ?_
  refine ev_iadd dX4_kills_18 ?_
  refine ev_aaload dX4_kills_19 (by first | rfl | assumption) (by omega) (by omega) (by decide) (by first | rfl | assumption) ?_
  refine ev_gI 1 dX4_kills_20 fX4_48 rfl (by first | rfl | assumption) rfl ?_
  refine ev_if_eq (tgt := 30) dX4_kills_23 (by decide) (by omega) (fun h2 => ?_) (fun h2 => ?_)
  · exact no (fun z => by have := z.2; omega)
  refine ev_iconst dX4_kills_26 ?_
  refine ev_goto (tgt := 31) dX4_kills_27 (by decide) ?_
  exact ev_ireturn dX4_kills_31 (okR_z rfl (by first | exact Or.inl rfl | exact Or.inr rfl | assumption)) (rz ⟨yn_1 ⟨h1, by omega⟩, rfl⟩)
theorem c_changesNothing {k : Nat} (hk : k < 6) (M : Mm) {S T : PS} (hS : Rp M (aC k) S) (hT : Rp M (aC (k + 1)) T) : Cm mX4_changesNothing [vR 14, vI (k : Int)] M (fun r M' => yn ((∃ p, S p) ∧ S = T) r ∧ M' = M) := by
  have s0 := sh_aC (k := k) (by omega)
  have s1 := sh_aC (k := k + 1) (by omega)
  have sk := s0.1
  have sk1 := s1.1
  have pk := pp_aC (k := k) (by omega)
  have pk1 : PP 15 ((k : Int) + 1) = some (aC (k + 1)) := pp_aC (k := k + 1) (by omega)
  have e01 := hS.e01
  refine cm_of (by decide +kernel) (fun _ => trivial) (Nat.le_of_ble_eq_true rfl) ?_
  have no : ¬ ((∃ p, S p) ∧ S = T) → Ev mX4_changesNothing 43 [some (vR 14), some (vI (k : Int)), some (vR (aC k)), some (vR (aC (k + 1)))] [] KK M PP 0 0 (Rz mX4_changesNothing (fun r M' => yn ((∃ p, S p) ∧ S = T) r ∧ M' = M)) := by
    intro h
    refine ev_iconst dX4_changesNothing_43 ?_
    exact ev_ireturn dX4_changesNothing_44 (okR_z rfl (by first | exact Or.inl rfl | exact Or.inr rfl | assumption)) (rz ⟨yn_0 h, rfl⟩)
  first | refine ev_aload_n dX4_changesNothing_0 rfl ?_ | refine ev_aloadX_n dX4_changesNothing_0 rfl ?_
  refine ev_getR dX4_changesNothing_1 fX4_11 rfl (by first | rfl | assumption) (by first | rfl | assumption) ?_
  refine ev_iload_n dX4_changesNothing_4 rfl ?_
  refine ev_aaload dX4_changesNothing_5 (by first | rfl | assumption) (by omega) (by omega) (by decide) (by first | rfl | assumption) ?_
  refine ev_astore_n dX4_changesNothing_6 (by decide) ?_
  first | refine ev_aload_n dX4_changesNothing_7 rfl ?_ | refine ev_aloadX_n dX4_changesNothing_7 rfl ?_
  refine ev_getR dX4_changesNothing_8 fX4_11 rfl (by first | rfl | assumption) (by first | rfl | assumption) ?_
  refine ev_iload_n dX4_changesNothing_11 rfl ?_
  refine ev_iconst dX4_changesNothing_12 ?_
  refine ev_iadd dX4_changesNothing_13 ?_
  refine ev_aaload dX4_changesNothing_14 (by first | rfl | assumption) (by omega) (by omega) (by decide) (by first | rfl | assumption) ?_
  refine ev_astore_n dX4_changesNothing_15 (by decide) ?_
  first | refine ev_aload_n dX4_changesNothing_16 rfl ?_ | refine ev_aloadX_n dX4_changesNothing_16 rfl ?_
  refine ev_gI 1 dX4_changesNothing_17 fX4_48 rfl (by first | rfl | assumption) rfl ?_
  refine ev_if_ne (tgt := 43) dX4_changesNothing_20 (by decide) (by omega) (fun h1 => ?_) (fun h1 => ?_)
  · exact no (fun z => h1 (hS.ne.mpr z.1))
  first | refine ev_aload_n dX4_changesNothing_23 rfl ?_ | refine ev_aloadX_n dX4_changesNothing_23 rfl ?_
  first | refine ev_aload_n dX4_changesNothing_24 rfl ?_ | refine ev_aloadX_n dX4_changesNothing_24 rfl ?_
  refine ev_callv (ci := 6) (c_isWithin s0 s1 M hS.e01 hT.e01 (bdd_mono hS.1 (by omega)) (bdd_mono hT.1 (by omega))) dX4_changesNothing_25 tX6_isWithin.1 kX4_87 tX6_isWithin.2.1 tX6_isWithin.2.2.1 rfl (by first | rfl | assumption) tX6_isWithin.2.2.2 ⟨⟨Nat.le_of_ble_eq_true rfl, Nat.le_of_ble_eq_true rfl⟩, Nat.le_of_ble_eq_true rfl, Nat.le_of_ble_eq_true rfl⟩ rfl (Nat.le_of_ble_eq_true rfl) ?_
  rintro r K' M8 P' ⟨rfl, rfl, ⟨v, rfl, hv1, hv2⟩, hM8⟩
  rw [hM8]
  clear hM8 M8
  rw [Rp_wth hS hT] at hv2
  refine ev_if_eq (tgt := 43) dX4_changesNothing_28 (by decide) (by omega) (fun h2 => ?_) (fun h2 => ?_)
  · exact no (fun z => by have := hv2.mpr (fun p hp => by rw [← z.2]; exact hp); omega)
  first | refine ev_aload_n dX4_changesNothing_31 rfl ?_ | refine ev_aloadX_n dX4_changesNothing_31 rfl ?_
  first | refine ev_aload_n dX4_changesNothing_32 rfl ?_ | refine ev_aloadX_n dX4_changesNothing_32 rfl ?_
  refine ev_callv (ci := 6) (c_isWithin s1 s0 M hT.e01 hS.e01 (bdd_mono hT.1 (by omega)) (bdd_mono hS.1 (by omega))) dX4_changesNothing_33 tX6_isWithin.1 kX4_87 tX6_isWithin.2.1 tX6_isWithin.2.2.1 rfl (by first | rfl | assumption) tX6_isWithin.2.2.2 ⟨⟨Nat.le_of_ble_eq_true rfl, Nat.le_of_ble_eq_true rfl⟩, Nat.le_of_ble_eq_true rfl, Nat.le_of_ble_eq_true rfl⟩ rfl (Nat.le_of_ble_eq_true rfl) ?_
  rintro r K' M8 P' ⟨rfl, rfl, ⟨w, rfl, hw1, hw2⟩, hM8⟩
  rw [hM8]
  clear hM8 M8
  rw [Rp_wth hT hS] at hw2
  refine ev_if_eq (tgt := 43) dX4_changesNothing_36 (by decide) (by omega) (fun h3 => ?_) (fun h3 => ?_)
  · exact no (fun z => by have := hw2.mpr (fun p hp => by rw [z.2]; exact hp); omega)
  refine ev_iconst dX4_changesNothing_39 ?_
  refine ev_goto (tgt := 44) dX4_changesNothing_40 (by decide) ?_
  exact ev_ireturn dX4_changesNothing_44 (okR_z rfl (by first | exact Or.inl rfl | exact Or.inr rfl | assumption)) (rz ⟨yn_1 ⟨hS.ne.mp h1, funext fun p => propext ⟨hv2.mp (by omega) p, hw2.mp (by omega) p⟩⟩, rfl⟩)
theorem c_pointsAhead {k : Nat} (hk : k ≤ 6) (M : Mm) {S : PS} (hS : Rp M (aC k) S) (hc : inR (M 16 k)) : Cm mX4_pointsAhead [vR 14, vI (k : Int)] M (fun r M' => r = some (vI (if M 16 k = -1 then cntF M (aC k) else M 16 k)) ∧ M' = rwc M 16 (up1 (M 16) k (if M 16 k = -1 then cntF M (aC k) else M 16 k))) := by
  have sk := sh_aC hk
  have kk := sk.1
  have pk := pp_aC hk
  refine cm_of (by decide +kernel) (fun _ => trivial) (Nat.le_of_ble_eq_true rfl) ?_
  first | refine ev_aload_n dX4_pointsAhead_0 rfl ?_ | refine ev_aloadX_n dX4_pointsAhead_0 rfl ?_
  refine ev_getR dX4_pointsAhead_1 fX4_17 rfl (by first | rfl | assumption) (by first | rfl | assumption) ?_
  refine ev_iload_n dX4_pointsAhead_4 rfl ?_
  refine ev_iaload dX4_pointsAhead_5 (by first | rfl | assumption) (by omega) (by omega) (by decide) ?_
  refine ev_iconst dX4_pointsAhead_6 ?_
  refine ev_icmp_ne (tgt := 25) dX4_pointsAhead_7 (by decide) (by omega) (by omega) (fun h => ?_) (fun h => ?_)
  · first | refine ev_aload_n dX4_pointsAhead_25 rfl ?_ | refine ev_aloadX_n dX4_pointsAhead_25 rfl ?_
    refine ev_getR dX4_pointsAhead_26 fX4_17 rfl (by first | rfl | assumption) (by first | rfl | assumption) ?_
    refine ev_iload_n dX4_pointsAhead_29 rfl ?_
    refine ev_iaload dX4_pointsAhead_30 (by first | rfl | assumption) (by omega) (by omega) (by decide) ?_
    exact ev_ireturn dX4_pointsAhead_31 ⟨_, rfl, rfl⟩ (rz ⟨by rw [if_neg h], by rw [if_neg h, up1_id, rwc_self]⟩)
  · first | refine ev_aload_n dX4_pointsAhead_10 rfl ?_ | refine ev_aloadX_n dX4_pointsAhead_10 rfl ?_
    refine ev_getR dX4_pointsAhead_11 fX4_17 rfl (by first | rfl | assumption) (by first | rfl | assumption) ?_
    refine ev_iload_n dX4_pointsAhead_14 rfl ?_
    first | refine ev_aload_n dX4_pointsAhead_15 rfl ?_ | refine ev_aloadX_n dX4_pointsAhead_15 rfl ?_
    refine ev_getR dX4_pointsAhead_16 fX4_11 rfl (by first | rfl | assumption) (by first | rfl | assumption) ?_
    refine ev_iload_n dX4_pointsAhead_19 rfl ?_
    refine ev_aaload dX4_pointsAhead_20 (by first | rfl | assumption) (by omega) (by omega) (by decide) (by first | rfl | assumption) ?_
    by_cases h0 : M (aC k) 1 = 0
    · refine ev_callv (ci := 6) (c_countPoints sk M hS.e01 (bdd_mono (hS.bd h0) (by omega))) dX4_pointsAhead_21 tX6_countPoints.1 kX4_94 tX6_countPoints.2.1 tX6_countPoints.2.2.1 rfl (by first | rfl | assumption) tX6_countPoints.2.2.2 ⟨⟨Nat.le_of_ble_eq_true rfl, Nat.le_of_ble_eq_true rfl⟩, Nat.le_of_ble_eq_true rfl, Nat.le_of_ble_eq_true rfl⟩ rfl (Nat.le_of_ble_eq_true rfl) ?_
      rintro r K' M' P' ⟨rfl, rfl, rfl, hM'⟩
      rw [hM']
      clear hM' M'
      refine ev_iastore dX4_pointsAhead_24 (by first | rfl | assumption) (by omega) (by omega) (by decide) ?_
      first | refine ev_aload_n dX4_pointsAhead_25 rfl ?_ | refine ev_aloadX_n dX4_pointsAhead_25 rfl ?_
      refine ev_getR dX4_pointsAhead_26 fX4_17 rfl (by first | rfl | assumption) (by first | rfl | assumption) ?_
      refine ev_iload_n dX4_pointsAhead_29 rfl ?_
      refine ev_iaload dX4_pointsAhead_30 (by first | rfl | assumption) (by omega) (by omega) (by decide) ?_
      refine ev_ireturn dX4_pointsAhead_31 ⟨_, rfl, rfl⟩ (rz ?_)
      rw [upM_rw, rwc_at, up1_s, if_pos h]
      exact ⟨rfl, rfl⟩
    · have e : cntF M (aC k) = 0 := by unfold cntF; rw [if_neg h0]
      have hcp : Cm mX6_countPoints [vR (aC k)] M (fun r M' => r = some (vI (cntF M (aC k))) ∧ M' = M) := by
        have he := hS.e01
        obtain ⟨hs1, hs2, hs3⟩ := id sk
        refine cm_of (by decide +kernel) (fun _ => trivial) (Nat.le_of_ble_eq_true rfl) ?_
        first | refine ev_aload_n dX6_countPoints_0 rfl ?_ | refine ev_aloadX_n dX6_countPoints_0 rfl ?_
        refine ev_gI 1 dX6_countPoints_1 fX6_15 rfl (by first | rfl | assumption) rfl ?_
        refine ev_if_eq (tgt := 9) dX6_countPoints_4 (by decide) (by omega) (fun he0 => ?_) (fun he0 => ?_)
        · exact absurd he0 h0
        · refine ev_iconst dX6_countPoints_7 ?_
          exact ev_ireturn dX6_countPoints_8 ⟨_, rfl, rfl⟩ (rz ⟨by rw [e], rfl⟩)
      refine ev_callv (ci := 6) hcp dX4_pointsAhead_21 tX6_countPoints.1 kX4_94 tX6_countPoints.2.1 tX6_countPoints.2.2.1 rfl (by first | rfl | assumption) tX6_countPoints.2.2.2 ⟨⟨Nat.le_of_ble_eq_true rfl, Nat.le_of_ble_eq_true rfl⟩, Nat.le_of_ble_eq_true rfl, Nat.le_of_ble_eq_true rfl⟩ rfl (Nat.le_of_ble_eq_true rfl) ?_
      rintro r K' M' P' ⟨rfl, rfl, rfl, hM'⟩
      rw [hM']
      clear hM' M'
      refine ev_iastore dX4_pointsAhead_24 (by first | rfl | assumption) (by omega) (by omega) (by decide) ?_
      first | refine ev_aload_n dX4_pointsAhead_25 rfl ?_ | refine ev_aloadX_n dX4_pointsAhead_25 rfl ?_
      refine ev_getR dX4_pointsAhead_26 fX4_17 rfl (by first | rfl | assumption) (by first | rfl | assumption) ?_
      refine ev_iload_n dX4_pointsAhead_29 rfl ?_
      refine ev_iaload dX4_pointsAhead_30 (by first | rfl | assumption) (by omega) (by omega) (by decide) ?_
      refine ev_ireturn dX4_pointsAhead_31 ⟨_, rfl, rfl⟩ (rz ?_)
      rw [upM_rw, rwc_at, up1_s, if_pos h]
      exact ⟨rfl, rfl⟩
/-! the whole run, as sets -/
def prS (kf af bf zf : Int → Int) (i : Nat) (A A' : Nat → PS) (r r' : Int) : Prop :=
  (kf i ≠ 4 ∧ r' = r ∧ ∀ q, q ≤ i + 1 → A' q = if q = i + 1 then stepS (kf i) (af i) (bf i) (zf i) (A i) else A q) ∨
  (kf i = 4 ∧ ∃ t N : Nat, t < i ∧ af i = t ∧ LoopN (A t) (bdy kf af bf zf t i) N ∧ r' = r + N ∧ ∀ q, q ≤ i + 1 → A' q = if q = i + 1 then joinS (A t) (bdy kf af bf zf t i (itT (A t) (bdy kf af bf zf t i) N)) else if t ≤ q then plc kf af bf zf (joinS (A t) (bdy kf af bf zf t i (itT (A t) (bdy kf af bf zf t i) N))) t (q - t) else A q)
def prun (kf af bf zf : Int → Int) : Nat → (Nat → PS) → Int → Prop
  | 0, A, r => A 0 = (fun p => inP p) ∧ r = 0
  | i + 1, A', r' => ∃ A r, prun kf af bf zf i A r ∧ prS kf af bf zf i A A' r r'
theorem prun_uniq {kf af bf zf : Int → Int} : ∀ (n : Nat) (A B : Nat → PS) (r s : Int), prun kf af bf zf n A r → prun kf af bf zf n B s → r = s ∧ ∀ q, q ≤ n → A q = B q := by
  intro n
  induction n with
  | zero =>
    intro A B r s h h'
    refine ⟨by rw [h.2, h'.2], fun q hq => ?_⟩
    have : q = 0 := by omega
    rw [this, h.1, h'.1]
  | succ n ih =>
    rintro A' B' r' s' ⟨A, r, h1, h2⟩ ⟨B, s, h3, h4⟩
    obtain ⟨e1, e2⟩ := ih A B r s h1 h3
    rcases h2 with ⟨k1, k2, k3⟩ | ⟨k1, t, N, k2, k3, k4, k5, k6⟩
    · rcases h4 with ⟨l1, l2, l3⟩ | ⟨l1, -⟩
      · refine ⟨by rw [k2, l2, e1], fun q hq => ?_⟩
        rw [k3 q hq, l3 q hq, e2 n (Nat.le_refl n)]
        by_cases hc : q = n + 1
        · rw [if_pos hc, if_pos hc]
        · rw [if_neg hc, if_neg hc, e2 q (by omega)]
      · exact absurd l1 k1
    · rcases h4 with ⟨l1, -⟩ | ⟨l1, t', N', l2, l3, l4, l5, l6⟩
      · exact absurd k1 l1
      · have ht : t = t' := by have := k3.symm.trans l3; omega
        subst ht
        rw [e2 t (by omega)] at k4 k6
        have hN := k4.uniq l4
        subst hN
        refine ⟨by rw [k5, l5, e1], fun q hq => ?_⟩
        rw [k6 q hq, l6 q hq]
        by_cases hc : q = n + 1
        · rw [if_pos hc, if_pos hc]
        · rw [if_neg hc, if_neg hc]
          by_cases hc2 : t ≤ q
          · rw [if_pos hc2, if_pos hc2]
          · rw [if_neg hc2, if_neg hc2, e2 q (by omega)]
/-- a program as it may stand: loops go back to steps that are none, behind the last loop -/
def prOK (kf af bf zf : Int → Int) (n : Nat) : Prop := ∀ i : Nat, i < n → stOK (kf i) (af i) (bf i) (zf i) ∨ (kf i = 4 ∧ ∃ t : Nat, t < i ∧ af i = t ∧ ∀ j : Nat, t ≤ j → j < i → stOK (kf j) (af j) (bf j) (zf j))
theorem stOK_n4 {kd a b z : Int} (h : stOK kd a b z) : kd ≠ 4 ∧ inR kd := by
  rcases h with h | h | h | h <;> (have := h.1; omega)
def fullF : Int → Int := fun j => if j % 6 = nx (j / 6) then 0 else 16
theorem full_ok : TC fullF ∧ dg16 fullF ∧ (fun p => inP p) = byB fullF := by
  have hm : ∀ a b, lit a → lit b → mt fullF a b = if b = nx a then 0 else 16 := by
    intro a b ha hb
    show (if (a * 6 + b) % 6 = nx ((a * 6 + b) / 6) then (0 : Int) else 16) = _
    rw [show (a * 6 + b) / 6 = a by omega, show (a * 6 + b) % 6 = b by omega]
  have nn : ∀ a b, lit a → lit b → (b = nx a ↔ a = nx b) := by
    intro a b ha hb
    constructor
    · intro h; rw [h, nx_nx ha]
    · intro h; rw [h, nx_nx hb]
  refine ⟨⟨fun a b ha hb => ?_, fun a b c ha hb hc => ?_, fun a ha => ?_, fun a ha => ?_, fun a b ha hb => ?_⟩, fun a ha => ?_, funext fun p => propext ?_⟩
  · rw [hm a b ha hb, hm b a hb ha]
    by_cases h : b = nx a
    · rw [if_pos h, if_pos ((nn a b ha hb).mp h)]
    · rw [if_neg h, if_neg (fun z => h ((nn a b ha hb).mpr z))]
  · rw [hm a b ha hb, hm a c ha hc, hm _ b (nx_lit hc) hb, nx_nx hc]
    by_cases h1 : c = nx a
    · rw [if_pos h1]
      by_cases h2 : b = c
      · rw [if_pos h2, if_pos (by rw [h2, h1])]; omega
      · rw [if_neg h2]; split <;> omega
    · rw [if_neg h1]; split <;> split <;> omega
  · rw [hm a _ ha (nx_lit ha), if_pos rfl]
  · rw [hm a a ha ha, if_neg (fun z => nx_ne a z.symm)]; omega
  · have w1 : (if a = nx a then (0 : Int) else 16) = 16 := if_neg (fun z => nx_ne a z.symm)
    have w2 : (if b = nx b then (0 : Int) else 16) = 16 := if_neg (fun z => nx_ne b z.symm)
    rw [hm a b ha hb, hm a a ha ha, hm b b hb hb, w1, w2]
    split <;> omega
  · rw [hm a a ha ha, if_neg (fun z => nx_ne a z.symm)]; omega
  · constructor
    · intro hp
      refine ⟨hp, fun a b ha hb => ?_⟩
      rw [hm a b ha hb]
      by_cases h : b = nx a
      · rw [if_pos h, h, pv_sgn p a ha]; omega
      · rw [if_neg h]
        have r1 := pv_rng hp a
        have r2 := pv_rng hp b
        omega
    · exact fun h => h.1
theorem prun_ex {kf af bf zf : Int → Int} : ∀ n : Nat, prOK kf af bf zf n → ∃ A r, prun kf af bf zf n A r ∧ (∀ q, q ≤ n → Oct (A q)) ∧ 0 ≤ r ∧ r ≤ 40 * n := by
  intro n
  induction n with
  | zero =>
    intro _
    refine ⟨fun _ p => inP p, 0, ⟨rfl, rfl⟩, fun q _ => ?_, by omega, by omega⟩
    exact Or.inr ⟨fullF, full_ok⟩
  | succ n ih =>
    intro h
    obtain ⟨A, r, h1, h2, h3, h4⟩ := ih (fun i hi => h i (by omega))
    rcases h n (by omega) with hs | ⟨hk, t, ht, ha, hb⟩
    · refine ⟨fun q => if q = n + 1 then stepS (kf n) (af n) (bf n) (zf n) (A n) else A q, r, ⟨A, r, h1, Or.inl ⟨(stOK_n4 hs).1, rfl, fun q _ => rfl⟩⟩, fun q hq => ?_, h3, by omega⟩
      show Oct (if q = n + 1 then _ else _)
      by_cases hc : q = n + 1
      · rw [if_pos hc]; exact oct_step (h2 n (Nat.le_refl n)) hs
      · rw [if_neg hc]; exact h2 q (by omega)
    · have oT := h2 t (by omega)
      have hbo := oct_bdy (kf := kf) (af := af) (bf := bf) (zf := zf) (Nat.le_of_lt ht) hb
      obtain ⟨N, hN1, hN⟩ := loop_ends oT hbo
      have oJ := oct_join oT (hbo _ (it_ok oT hbo N (fun j hj => hN.2 j hj)).1)
      refine ⟨_, r + N, ⟨A, r, h1, Or.inr ⟨hk, t, N, ht, ha, hN, rfl, fun q _ => rfl⟩⟩, fun q hq => ?_, by omega, by omega⟩
      show Oct (if q = n + 1 then _ else if t ≤ q then _ else _)
      by_cases hc : q = n + 1
      · rw [if_pos hc]; exact oJ
      · rw [if_neg hc]
        by_cases hc2 : t ≤ q
        · rw [if_pos hc2]
          exact oct_plc (i := n) oJ hb (q - t) (by omega)
        · rw [if_neg hc2]; exact h2 q (by omega)
