/-! ===== programs by a seed: the class ===== -/
def sdI (s : Int) : Nat → Int
  | 0 => s
  | k + 1 => sdN (sdI s k)
theorem sdI_rng {s : Int} (h : 0 ≤ s) (h2 : s ≤ 2147483647) : ∀ k, 0 ≤ sdI s k ∧ sdI s k ≤ 2147483647 := by
  intro k
  induction k with
  | zero => exact ⟨h, h2⟩
  | succ k ih => exact sdN_rng ih.1 ih.2
theorem sdI_add (s : Int) (a : Nat) : ∀ b, sdI (sdI s a) b = sdI s (a + b) := by
  intro b
  induction b with
  | zero => rfl
  | succ b ih => show sdN (sdI (sdI s a) b) = sdN (sdI s (a + b)); rw [ih]
theorem drW_rng {q : Int} (hq : 0 < q) (s : Int) : 0 ≤ drV s q ∧ drV s q < q := ⟨Int.emod_nonneg _ (Int.ne_of_gt hq), Int.emod_lt_of_pos _ hq⟩
/-- the test that is drawn at a seed -/
def tsP (s p : Int) : Prop := pv p (drV s 6) + pv p (drV (sdN s) 6) ≤ drV (sdN (sdN s)) 12 - 4
def tS (s : Int) : Nat → PS
  | 0 => fun p => inP p
  | i + 1 => fun p => tS s i p ∧ tsP (sdI s (3 * i)) p
theorem tS_in {s : Int} : ∀ i p, tS s i p → inP p := by
  intro i
  induction i with
  | zero => exact fun p h => h
  | succ i ih => exact fun p h => ih p h.1
def sdM (X : Mm) (z : Int) : Mm := rwc X 51 (up1 (X 51) 0 z)
theorem sdM_sdM (X : Mm) (a b : Int) : sdM (sdM X a) b = sdM X b := by
  unfold sdM
  rw [rwc_rwc, rwc_at]
  congr 1
  funext j
  unfold up1
  split <;> rfl
theorem sdM_0 (X : Mm) (a : Int) : sdM X a 51 0 = a := by unfold sdM; rw [rwc_at, up1_s]
theorem sdM_o {X : Mm} {a : Int} {q : Nat} (h : q ≠ 51) : sdM X a q = X q := rwc_ne h
theorem sdM_id (X : Mm) : sdM X (X 51 0) = X := by unfold sdM; rw [up1_id, rwc_self]
theorem c_drawS {q z : Int} (X : Mm) (hq : 0 < q) (hq2 : q ≤ 100) (h : 0 ≤ z) (h2 : z ≤ 2147483647) : Cm mX0_draw [vR 51, vI q] (sdM X z) (fun r M' => r = some (vI (drV z q)) ∧ M' = sdM X (sdN z)) := by
  have e := sdM_0 X z
  refine cm_mono (c_draw (sdM X z) hq hq2 (by rw [e]; exact h) (by rw [e]; exact h2)) ?_
  rintro r M' ⟨h1, h2⟩
  rw [e] at h1 h2
  exact ⟨h1, h2.trans (sdM_sdM X z (sdN z))⟩
abbrev FrS (M X : Mm) : Prop := ∀ q, q ≠ 51 → q ≠ 52 → q ≠ 53 → X q = M q
theorem lim_by {f : Int → Int} (hS : Sym f) {a b z : Int} (ha : lit a) (hb : lit b) : byB (limF f a b z) = fun p => byB f p ∧ pv p a + pv p b ≤ z := by
  funext p
  apply propext
  unfold byB
  rw [lim_ok hS ha hb]
  constructor
  · rintro ⟨h1, h2, h3⟩; exact ⟨⟨h1, h2⟩, h3⟩
  · rintro ⟨⟨h1, h2⟩, h3⟩; exact ⟨h1, h2, h3⟩
theorem c_shapeOf {s : Int} (h : 0 ≤ s) (h2 : s ≤ 2147483647) (M : Mm) (hs : M 51 0 = s) : Cm mX0_shapeOfFourTests [vR 51, vR 52] M (fun r M' => r = none ∧ Rp M' 52 (tS s 4) ∧ M' 51 0 = sdI s 12 ∧ FrS M M') := by
  refine cm_of (by decide +kernel) (fun _ => trivial) (Nat.le_of_ble_eq_true rfl) ?_
  first | refine ev_aload_n dX0_shapeOfFourTests_0 rfl ?_ | refine ev_aloadX_n dX0_shapeOfFourTests_0 rfl ?_
  refine ev_callv (ci := 6) (c_fill sh_52 M) dX0_shapeOfFourTests_1 tX6_fill.1 kX0_28 tX6_fill.2.1 tX6_fill.2.2.1 rfl (by first | rfl | assumption) tX6_fill.2.2.2 ⟨⟨Nat.le_of_ble_eq_true rfl, Nat.le_of_ble_eq_true rfl⟩, Nat.le_of_ble_eq_true rfl, Nat.le_of_ble_eq_true rfl⟩ rfl (Nat.le_of_ble_eq_true rfl) ?_
  rintro r K' M' P' ⟨rfl, rfl, rfl, hM'⟩
  rw [hM']
  clear hM' M'
  have h0 : rwc (rwc M 52 (up1 (M 52) 1 0)) 53 (fillF (M 53)) 52 1 = 0 := by rw [rwc_ne (by decide), rwc_at, up1_s]
  have h53 : rwc (rwc M 52 (up1 (M 52) 1 0)) 53 (fillF (M 53)) 53 = fillF (M 53) := rwc_at _ _ _
  have hfr : FrS M (rwc (rwc M 52 (up1 (M 52) 1 0)) 53 (fillF (M 53))) := fun q _ q2 q3 => by rw [rwc_ne q3, rwc_ne q2]
  have h51 : rwc (rwc M 52 (up1 (M 52) 1 0)) 53 (fillF (M 53)) 51 0 = s := by rw [rwc_ne (by decide), rwc_ne (by decide)]; exact hs
  have hfill : Opn (fillF (M 53)) ∧ byB (fillF (M 53)) = fun p => inP p := by
    obtain ⟨t1, t2, t3⟩ := full_ok
    have hm : ∀ j, 0 ≤ j → j < 36 → fillF (M 53) j = fullF j := fun j j1 j2 => by unfold fillF fullF; rw [if_pos (by omega)]
    have hmt : ∀ a b, lit a → lit b → mt (fillF (M 53)) a b = mt fullF a b := fun a b ha hb => hm _ (by omega) (by omega)
    have o := opn_tc t1 t2
    refine ⟨⟨sym_cg hm o.1, fun a ha => by rw [hmt a _ ha (nx_lit ha)]; exact o.2.1 a ha, fun a ha => by rw [hmt a a ha ha]; exact o.2.2.1 a ha, fun j j1 j2 => by rw [hm j j1 j2]; exact o.2.2.2 j j1 j2⟩, ?_⟩
    rw [byB_cg hm, ← t3]
  show Ev mX0_shapeOfFourTests _ _ _ _ (rwc (rwc M 52 (up1 (M 52) 1 0)) 53 (fillF (M 53))) _ _ _ _
  generalize rwc (rwc M 52 (up1 (M 52) 1 0)) 53 (fillF (M 53)) = X0 at *
  rw [← h53] at hfill
  have lp : ∀ X, X 52 1 = 0 → Opn (X 53) → byB (X 53) = tS s 0 → FrS M X → Ev mX0_shapeOfFourTests 6 [some (vR 51), some (vR 52), some (vI ((0 : Nat) : Int)), none, none, none] [] KK (sdM X (sdI s (3 * 0))) PP 0 0 (Rz mX0_shapeOfFourTests (fun r M' => r = none ∧ Rp M' 52 (tS s 4) ∧ M' 51 0 = sdI s 12 ∧ FrS M M')) := by
    refine up_loop (P := fun i => ∀ X, X 52 1 = 0 → Opn (X 53) → byB (X 53) = tS s i → FrS M X → Ev mX0_shapeOfFourTests 6 [some (vR 51), some (vR 52), some (vI (i : Int)), none, none, none] [] KK (sdM X (sdI s (3 * i))) PP 0 0 _) 4 ?_ ?_
    · intro X x1 x2 x3 x4
      have e1 : sdM X (sdI s (3 * 4)) 52 1 = 0 := by rw [sdM_o (by decide)]; exact x1
      have e2 : sdM X (sdI s (3 * 4)) 53 = X 53 := sdM_o (by decide)
      have hc := close_Rp (M := sdM X (sdI s (3 * 4))) (c := 52) e1 (by rw [e2]; exact x2.1) (by rw [e2]; exact x2.2.1) (by rw [e2]; exact x2.2.2.1) (by rw [e2]; exact x2.2.2.2)
      rw [e2, x3] at hc
      have hfc := fr2_cl (M := sdM X (sdI s (3 * 4))) (c := 52)
      have e51 : clM (sdM X (sdI s (3 * 4))) 52 51 0 = sdI s 12 := by rw [hfc 51 (by decide) (by decide)]; exact sdM_0 _ _
      have ef : FrS M (clM (sdM X (sdI s (3 * 4))) 52) := fun q q1 q2 q3 => by rw [hfc q q2 q3, sdM_o q1]; exact x4 q q1 q2 q3
      refine ev_iload_n dX0_shapeOfFourTests_6 rfl ?_
      refine ev_iconst dX0_shapeOfFourTests_7 ?_
      refine ev_icmp_ge (tgt := 51) dX0_shapeOfFourTests_8 (by decide) (by omega) (by omega) (fun hb8 => ?_) (fun hb8 => ?_)
      · first | refine ev_aload_n dX0_shapeOfFourTests_51 rfl ?_ | refine ev_aloadX_n dX0_shapeOfFourTests_51 rfl ?_
        refine ev_callv (ci := 6) (c_close sh_52 _ (by rw [e2]; exact x2.2.2.2) (Or.inl e1)) dX0_shapeOfFourTests_52 tX6_close.1 kX0_41 tX6_close.2.1 tX6_close.2.2.1 rfl (by first | rfl | assumption) tX6_close.2.2.2 ⟨⟨Nat.le_of_ble_eq_true rfl, Nat.le_of_ble_eq_true rfl⟩, Nat.le_of_ble_eq_true rfl, Nat.le_of_ble_eq_true rfl⟩ rfl (Nat.le_of_ble_eq_true rfl) ?_
        rintro r K' M' P' ⟨rfl, rfl, rfl, hM'⟩
        rw [hM']
        clear hM' M'
        exact ev_return dX0_shapeOfFourTests_55 rfl (rz ⟨rfl, hc, e51, ef⟩)
      · omega
    · intro i hi hP X x1 x2 x3 x4
      have r0 := sdI_rng h h2 (3 * i)
      have r1 := sdI_rng h h2 (3 * i + 1)
      have r2 := sdI_rng h h2 (3 * i + 2)
      have d1 := drW_rng (q := 6) (by omega) (sdI s (3 * i))
      have d2 := drW_rng (q := 6) (by omega) (sdI s (3 * i + 1))
      have d3 := drW_rng (q := 12) (by omega) (sdI s (3 * i + 2))
      have k1 : Cm mX0_draw [vR 51, vI 6] (sdM X (sdI s (3 * i))) (fun r M' => r = some (vI (drV (sdI s (3 * i)) 6)) ∧ M' = sdM X (sdI s (3 * i + 1))) := c_drawS X (by omega) (by omega) r0.1 r0.2
      have k2 : Cm mX0_draw [vR 51, vI 6] (sdM X (sdI s (3 * i + 1))) (fun r M' => r = some (vI (drV (sdI s (3 * i + 1)) 6)) ∧ M' = sdM X (sdI s (3 * i + 2))) := c_drawS X (by omega) (by omega) r1.1 r1.2
      have k3 : Cm mX0_draw [vR 51, vI 12] (sdM X (sdI s (3 * i + 2))) (fun r M' => r = some (vI (drV (sdI s (3 * i + 2)) 12)) ∧ M' = sdM X (sdI s (3 * (i + 1)))) := c_drawS X (by omega) (by omega) r2.1 r2.2
      have et : tS s (i + 1) = fun p => tS s i p ∧ pv p (drV (sdI s (3 * i)) 6) + pv p (drV (sdI s (3 * i + 1)) 6) ≤ drV (sdI s (3 * i + 2)) 12 - 4 := rfl
      rw [et] at hP
      generalize drV (sdI s (3 * i)) 6 = a at *
      generalize drV (sdI s (3 * i + 1)) 6 = b at *
      generalize drV (sdI s (3 * i + 2)) 12 = z at *
      generalize sdI s (3 * i + 1) = z1 at *
      generalize sdI s (3 * i + 2) = z2 at *
      generalize sdI s (3 * (i + 1)) = z3 at *
      have e53 : sdM X z3 53 = X 53 := sdM_o (by decide)
      have hb := x2.2.2.2 (a * 6 + b) (by omega) (by omega)
      have hl := c_limit (c := 52) sh_52 (a := a) (b := b) (z := z - 4) d1.1 d1.2 d2.1 d2.2 (by omega) (sdM X z3) (by show inR (sdM X z3 53 (a * 6 + b)); rw [e53]; omega)
      have hM : rwc (sdM X z3) 53 (limF (sdM X z3 53) a b (z - 4)) = sdM (rwc X 53 (limF (X 53) a b (z - 4))) z3 := by
        rw [e53]
        unfold sdM
        rw [rwc_comm (show (51 : Nat) ≠ 53 by decide), rwc_ne (show (51 : Nat) ≠ 53 by decide)]
      have fin := hP (rwc X 53 (limF (X 53) a b (z - 4))) (by rw [rwc_ne (by decide)]; exact x1) (by rw [rwc_at]; exact opn_lim x2 d1 d2 (by omega)) (by rw [rwc_at, lim_by x2.1 d1 d2, x3]) (fun q q1 q2 q3 => by rw [rwc_ne q3]; exact x4 q q1 q2 q3)
      rw [← hM] at fin
      refine ev_iload_n dX0_shapeOfFourTests_6 rfl ?_
      refine ev_iconst dX0_shapeOfFourTests_7 ?_
      refine ev_icmp_ge (tgt := 51) dX0_shapeOfFourTests_8 (by decide) (by omega) (by omega) (fun hb8 => ?_) (fun hb8 => ?_)
      · omega
      · first | refine ev_aload_n dX0_shapeOfFourTests_11 rfl ?_ | refine ev_aloadX_n dX0_shapeOfFourTests_11 rfl ?_
        refine ev_bipush dX0_shapeOfFourTests_12 ?_
        refine ev_callv (ci := 0) k1 dX0_shapeOfFourTests_14 tX0_draw.1 kX0_33 tX0_draw.2.1 tX0_draw.2.2.1 rfl (by first | rfl | assumption) tX0_draw.2.2.2 ⟨⟨Nat.le_of_ble_eq_true rfl, Nat.le_of_ble_eq_true rfl⟩, Nat.le_of_ble_eq_true rfl, Nat.le_of_ble_eq_true rfl⟩ rfl (Nat.le_of_ble_eq_true rfl) ?_
        rintro r K' M' P' ⟨rfl, rfl, rfl, hM'⟩
        rw [hM']
        clear hM' M'
        refine ev_istore_n dX0_shapeOfFourTests_17 (by decide) ?_
        first | refine ev_aload_n dX0_shapeOfFourTests_18 rfl ?_ | refine ev_aloadX_n dX0_shapeOfFourTests_18 rfl ?_
        refine ev_bipush dX0_shapeOfFourTests_19 ?_
        refine ev_callv (ci := 0) k2 dX0_shapeOfFourTests_21 tX0_draw.1 kX0_33 tX0_draw.2.1 tX0_draw.2.2.1 rfl (by first | rfl | assumption) tX0_draw.2.2.2 ⟨⟨Nat.le_of_ble_eq_true rfl, Nat.le_of_ble_eq_true rfl⟩, Nat.le_of_ble_eq_true rfl, Nat.le_of_ble_eq_true rfl⟩ rfl (Nat.le_of_ble_eq_true rfl) ?_
        rintro r K' M' P' ⟨rfl, rfl, rfl, hM'⟩
        rw [hM']
        clear hM' M'
        refine ev_istore dX0_shapeOfFourTests_24 (by decide) ?_
        first | refine ev_aload_n dX0_shapeOfFourTests_26 rfl ?_ | refine ev_aloadX_n dX0_shapeOfFourTests_26 rfl ?_
        refine ev_bipush dX0_shapeOfFourTests_27 ?_
        refine ev_callv (ci := 0) k3 dX0_shapeOfFourTests_29 tX0_draw.1 kX0_33 tX0_draw.2.1 tX0_draw.2.2.1 rfl (by first | rfl | assumption) tX0_draw.2.2.2 ⟨⟨Nat.le_of_ble_eq_true rfl, Nat.le_of_ble_eq_true rfl⟩, Nat.le_of_ble_eq_true rfl, Nat.le_of_ble_eq_true rfl⟩ rfl (Nat.le_of_ble_eq_true rfl) ?_
        rintro r K' M' P' ⟨rfl, rfl, rfl, hM'⟩
        rw [hM']
        clear hM' M'
        refine ev_iconst dX0_shapeOfFourTests_32 ?_
        refine ev_isub dX0_shapeOfFourTests_33 ?_
        refine ev_istore dX0_shapeOfFourTests_34 (by decide) ?_
        first | refine ev_aload_n dX0_shapeOfFourTests_36 rfl ?_ | refine ev_aloadX_n dX0_shapeOfFourTests_36 rfl ?_
        refine ev_iload_n dX0_shapeOfFourTests_37 rfl ?_
        refine ev_iload dX0_shapeOfFourTests_38 rfl ?_
        refine ev_iload dX0_shapeOfFourTests_40 rfl ?_
        refine ev_callv (ci := 6) hl dX0_shapeOfFourTests_42 tX6_limit.1 kX0_37 tX6_limit.2.1 tX6_limit.2.2.1 rfl (by first | rfl | assumption) tX6_limit.2.2.2 ⟨⟨Nat.le_of_ble_eq_true rfl, Nat.le_of_ble_eq_true rfl⟩, Nat.le_of_ble_eq_true rfl, Nat.le_of_ble_eq_true rfl⟩ rfl (Nat.le_of_ble_eq_true rfl) ?_
        rintro r K' M' P' ⟨rfl, rfl, rfl, hM'⟩
        rw [hM']
        clear hM' M'
        refine ev_iinc dX0_shapeOfFourTests_45 rfl (by decide) ?_
        refine ev_goto (tgt := 6) dX0_shapeOfFourTests_48 (by decide) ?_
        exact ev_to fin (by repeat (first | exact trivial | refine ⟨rfl, ?_⟩)) rfl rfl rfl rfl
  have l0 := lp X0 h0 hfill.1 hfill.2 hfr
  have e0 : sdM X0 (sdI s (3 * 0)) = X0 := by
    show sdM X0 s = X0
    rw [← h51, sdM_id]
  rw [e0] at l0
  refine ev_iconst dX0_shapeOfFourTests_4 ?_
  refine ev_istore_n dX0_shapeOfFourTests_5 (by decide) ?_
  exact ev_to l0 (by repeat (first | exact trivial | refine ⟨rfl, ?_⟩)) rfl rfl rfl rfl
/-- how many of the programs end with points, and how many points -/
noncomputable def dwE (s : Int) : Nat → Int
  | 0 => 0
  | i + 1 => dwE s i + (if crd (tS (sdI s (12 * i)) 4) = 0 then 0 else 1)
noncomputable def dwT (s : Int) : Nat → Int
  | 0 => 0
  | i + 1 => dwT s i + crd (tS (sdI s (12 * i)) 4)
noncomputable def dwV (s w : Int) (t : Nat) : Int := if w = 0 then dwE s t else if w = 1 then dwT s t else sdI s (12 * t)
theorem c_drawn {t s w : Int} (ht : inR t) (hs : inR s) (hw : inR w) (M : Mm) (h52 : M 52 1 = 0 ∨ M 52 1 = 1) : Cm mX8_drawn [vR 0, vI t, vI s, vI w] M (fun r M' => (¬ ((1 ≤ t ∧ t ≤ 8) ∧ 0 ≤ s ∧ (0 ≤ w ∧ w ≤ 2)) ∧ r = some (vI (-102)) ∧ M' = M) ∨ (((1 ≤ t ∧ t ≤ 8) ∧ 0 ≤ s ∧ (0 ≤ w ∧ w ≤ 2)) ∧ r = some (vI (dwV s w t.toNat)) ∧ FrS M M' ∧ (M' 52 1 = 0 ∨ M' 52 1 = 1))) := by
  by_cases hg : (1 ≤ t ∧ t ≤ 8) ∧ 0 ≤ s ∧ (0 ≤ w ∧ w ≤ 2)
  case neg =>
    refine cm_of (by decide +kernel) (fun _ => trivial) (Nat.le_of_ble_eq_true rfl) ?_
    refine ev_iload_n dX8_drawn_0 rfl ?_
    refine ev_iconst dX8_drawn_1 ?_
    refine ev_icmp_lt (tgt := 24) dX8_drawn_2 (by decide) (by omega) (by omega) (fun hb2 => ?_) (fun hb2 => ?_)
    · refine ev_bipush dX8_drawn_24 ?_
      exact ev_ireturn dX8_drawn_26 ⟨_, rfl, rfl⟩ (rz (Or.inl ⟨hg, rfl, rfl⟩))
    · refine ev_iload_n dX8_drawn_5 rfl ?_
      refine ev_bipush dX8_drawn_6 ?_
      refine ev_icmp_gt (tgt := 24) dX8_drawn_8 (by decide) (by omega) (by omega) (fun hb8 => ?_) (fun hb8 => ?_)
      · refine ev_bipush dX8_drawn_24 ?_
        exact ev_ireturn dX8_drawn_26 ⟨_, rfl, rfl⟩ (rz (Or.inl ⟨hg, rfl, rfl⟩))
      · refine ev_iload_n dX8_drawn_11 rfl ?_
        refine ev_if_lt (tgt := 24) dX8_drawn_12 (by decide) (by omega) (fun hb12 => ?_) (fun hb12 => ?_)
        · refine ev_bipush dX8_drawn_24 ?_
          exact ev_ireturn dX8_drawn_26 ⟨_, rfl, rfl⟩ (rz (Or.inl ⟨hg, rfl, rfl⟩))
        · refine ev_iload_n dX8_drawn_15 rfl ?_
          refine ev_if_lt (tgt := 24) dX8_drawn_16 (by decide) (by omega) (fun hb16 => ?_) (fun hb16 => ?_)
          · refine ev_bipush dX8_drawn_24 ?_
            exact ev_ireturn dX8_drawn_26 ⟨_, rfl, rfl⟩ (rz (Or.inl ⟨hg, rfl, rfl⟩))
          · refine ev_iload_n dX8_drawn_19 rfl ?_
            refine ev_iconst dX8_drawn_20 ?_
            refine ev_icmp_le (tgt := 27) dX8_drawn_21 (by decide) (by omega) (by omega) (fun hb21 => ?_) (fun hb21 => ?_)
            · exact absurd ⟨by omega, by omega, by omega⟩ hg
            · refine ev_bipush dX8_drawn_24 ?_
              exact ev_ireturn dX8_drawn_26 ⟨_, rfl, rfl⟩ (rz (Or.inl ⟨hg, rfl, rfl⟩))
  obtain ⟨⟨t1, t2⟩, s1, w1, w2⟩ := hg
  obtain ⟨T, rfl⟩ := Int.eq_ofNat_of_zero_le (show 0 ≤ t by omega)
  have lp : ∀ X, X 51 0 = sdI s (12 * 0) → (X 52 1 = 0 ∨ X 52 1 = 1) → FrS M X → Ev mX8_drawn 44 [some (vR 0), some (vI (T : Int)), some (vI s), some (vI w), some (vI (dwE s 0)), some (vI (dwT s 0)), some (vI ((0 : Nat) : Int))] [] KK X PP 0 0 (Rz mX8_drawn (fun r M' => (¬ ((1 ≤ (T : Int) ∧ (T : Int) ≤ 8) ∧ 0 ≤ s ∧ (0 ≤ w ∧ w ≤ 2)) ∧ r = some (vI (-102)) ∧ M' = M) ∨ (((1 ≤ (T : Int) ∧ (T : Int) ≤ 8) ∧ 0 ≤ s ∧ (0 ≤ w ∧ w ≤ 2)) ∧ r = some (vI (dwV s w (T : Int).toNat)) ∧ FrS M M' ∧ (M' 52 1 = 0 ∨ M' 52 1 = 1)))) := by
    refine up_loop (P := fun i => ∀ X, X 51 0 = sdI s (12 * i) → (X 52 1 = 0 ∨ X 52 1 = 1) → FrS M X → Ev mX8_drawn 44 [some (vR 0), some (vI (T : Int)), some (vI s), some (vI w), some (vI (dwE s i)), some (vI (dwT s i)), some (vI (i : Int))] [] KK X PP 0 0 _) T ?_ ?_
    · intro X x1 x2 x3
      have eT : (T : Int).toNat = T := by omega
      rw [eT]
      refine ev_iload dX8_drawn_44 rfl ?_
      refine ev_iload_n dX8_drawn_46 rfl ?_
      refine ev_icmp_ge (tgt := 95) dX8_drawn_47 (by decide) (by omega) (by omega) (fun hb47 => ?_) (fun hb47 => ?_)
      · refine ev_iload_n dX8_drawn_95 rfl ?_
        refine ev_if_ne (tgt := 102) dX8_drawn_96 (by decide) (by omega) (fun hb96 => ?_) (fun hb96 => ?_)
        · refine ev_iload_n dX8_drawn_102 rfl ?_
          refine ev_iconst dX8_drawn_103 ?_
          refine ev_icmp_ne (tgt := 112) dX8_drawn_104 (by decide) (by omega) (by omega) (fun hb104 => ?_) (fun hb104 => ?_)
          · first | refine ev_aload_n dX8_drawn_112 rfl ?_ | refine ev_aloadX_n dX8_drawn_112 rfl ?_
            refine ev_getR dX8_drawn_113 fX8_60 rfl (by first | rfl | assumption) (by first | rfl | assumption) ?_
            refine ev_gI 0 dX8_drawn_116 fX8_228 rfl (by first | rfl | assumption) rfl ?_
            try rw [x1]
            exact ev_ireturn dX8_drawn_119 ⟨_, rfl, rfl⟩ (rz (Or.inr ⟨⟨⟨by omega, by omega⟩, by omega, by omega⟩, by unfold dwV; first | rw [if_pos (by omega)] | rw [if_neg (by omega), if_pos (by omega)] | rw [if_neg (by omega), if_neg (by omega)], x3, x2⟩))
          · refine ev_iload dX8_drawn_107 rfl ?_
            refine ev_goto (tgt := 119) dX8_drawn_109 (by decide) ?_
            try rw [x1]
            exact ev_ireturn dX8_drawn_119 ⟨_, rfl, rfl⟩ (rz (Or.inr ⟨⟨⟨by omega, by omega⟩, by omega, by omega⟩, by unfold dwV; first | rw [if_pos (by omega)] | rw [if_neg (by omega), if_pos (by omega)] | rw [if_neg (by omega), if_neg (by omega)], x3, x2⟩))
        · refine ev_iload dX8_drawn_99 rfl ?_
          exact ev_ireturn dX8_drawn_101 ⟨_, rfl, rfl⟩ (rz (Or.inr ⟨⟨⟨by omega, by omega⟩, by omega, by omega⟩, by unfold dwV; first | rw [if_pos (by omega)] | rw [if_neg (by omega), if_pos (by omega)] | rw [if_neg (by omega), if_neg (by omega)], x3, x2⟩))
      · omega
    · intro i hi hP X x1 x2 x3
      have r0 := sdI_rng s1 (by omega) (12 * i)
      refine ev_iload dX8_drawn_44 rfl ?_
      refine ev_iload_n dX8_drawn_46 rfl ?_
      refine ev_icmp_ge (tgt := 95) dX8_drawn_47 (by decide) (by omega) (by omega) (fun hb47 => ?_) (fun hb47 => ?_)
      · omega
      · first | refine ev_aload_n dX8_drawn_50 rfl ?_ | refine ev_aloadX_n dX8_drawn_50 rfl ?_
        refine ev_getR dX8_drawn_51 fX8_60 rfl (by first | rfl | assumption) (by first | rfl | assumption) ?_
        first | refine ev_aload_n dX8_drawn_54 rfl ?_ | refine ev_aloadX_n dX8_drawn_54 rfl ?_
        refine ev_getR dX8_drawn_55 fX8_67 rfl (by first | rfl | assumption) (by first | rfl | assumption) ?_
        refine ev_callv (ci := 0) (c_shapeOf (s := sdI s (12 * i)) r0.1 r0.2 X x1) dX8_drawn_58 tX0_shapeOfFourTests.1 kX8_231 tX0_shapeOfFourTests.2.1 tX0_shapeOfFourTests.2.2.1 rfl (by first | rfl | assumption) tX0_shapeOfFourTests.2.2.2 ⟨⟨Nat.le_of_ble_eq_true rfl, Nat.le_of_ble_eq_true rfl⟩, Nat.le_of_ble_eq_true rfl, Nat.le_of_ble_eq_true rfl⟩ rfl (Nat.le_of_ble_eq_true rfl) ?_
        rintro w' K' Y P' ⟨rfl, rfl, rfl, q1, q2, q3⟩
        have y1 : Y 51 0 = sdI s (12 * (i + 1)) := by rw [q2, sdI_add]; rfl
        have y2 := q1.e01
        have y3 : FrS M Y := fun q a b c => by rw [q3 q a b c]; exact x3 q a b c
        have y4 := q1.cnt
        have y5 := q1.em
        have y6 : crd (tS (sdI s (12 * i)) 4) = 0 ↔ ∀ p, ¬ tS (sdI s (12 * i)) 4 p := crd_0 (fun p hp => tS_in 4 p hp)
        have fin := hP Y y1 y2 y3
        simp only [dwE, dwT] at fin
        first | refine ev_aload_n dX8_drawn_61 rfl ?_ | refine ev_aloadX_n dX8_drawn_61 rfl ?_
        refine ev_getR dX8_drawn_62 fX8_67 rfl (by first | rfl | assumption) (by first | rfl | assumption) ?_
        refine ev_gI 1 dX8_drawn_65 fX8_163 rfl (by first | rfl | assumption) rfl ?_
        refine ev_if_eq (tgt := 74) dX8_drawn_68 (by decide) (by omega) (fun hb68 => ?_) (fun hb68 => ?_)
        · refine ev_iinc dX8_drawn_74 rfl (by decide) ?_
          refine ev_iload dX8_drawn_77 rfl ?_
          first | refine ev_aload_n dX8_drawn_79 rfl ?_ | refine ev_aloadX_n dX8_drawn_79 rfl ?_
          refine ev_getR dX8_drawn_80 fX8_67 rfl (by first | rfl | assumption) (by first | rfl | assumption) ?_
          refine ev_callv (ci := 6) (c_countPoints sh_52 Y y2 (bdd_mono (q1.bd (by omega)) (by omega))) dX8_drawn_83 tX6_countPoints.1 kX8_234 tX6_countPoints.2.1 tX6_countPoints.2.2.1 rfl (by first | rfl | assumption) tX6_countPoints.2.2.2 ⟨⟨Nat.le_of_ble_eq_true rfl, Nat.le_of_ble_eq_true rfl⟩, Nat.le_of_ble_eq_true rfl, Nat.le_of_ble_eq_true rfl⟩ rfl (Nat.le_of_ble_eq_true rfl) ?_
          rintro r K' M' P' ⟨rfl, rfl, rfl, hM'⟩
          rw [hM']
          clear hM' M'
          rw [y4]
          refine ev_iadd dX8_drawn_86 ?_
          refine ev_istore dX8_drawn_87 (by decide) ?_
          refine ev_iinc dX8_drawn_89 rfl (by decide) ?_
          refine ev_goto (tgt := 44) dX8_drawn_92 (by decide) ?_
          first | (rw [if_neg (fun z => by have := y5.mpr (y6.mp z); omega)] at fin; exact ev_to fin (by repeat (first | exact trivial | refine ⟨rfl, ?_⟩)) rfl rfl rfl rfl) | (have z0 := y6.mpr (y5.mp (by omega)); rw [if_pos z0, z0, Int.add_zero, Int.add_zero] at fin; exact ev_to fin (by repeat (first | exact trivial | refine ⟨rfl, ?_⟩)) rfl rfl rfl rfl)
        · refine ev_goto (tgt := 89) dX8_drawn_71 (by decide) ?_
          refine ev_iinc dX8_drawn_89 rfl (by decide) ?_
          refine ev_goto (tgt := 44) dX8_drawn_92 (by decide) ?_
          first | (rw [if_neg (fun z => by have := y5.mpr (y6.mp z); omega)] at fin; exact ev_to fin (by repeat (first | exact trivial | refine ⟨rfl, ?_⟩)) rfl rfl rfl rfl) | (have z0 := y6.mpr (y5.mp (by omega)); rw [if_pos z0, z0, Int.add_zero, Int.add_zero] at fin; exact ev_to fin (by repeat (first | exact trivial | refine ⟨rfl, ?_⟩)) rfl rfl rfl rfl)
  refine cm_of (by decide +kernel) (fun _ => trivial) (Nat.le_of_ble_eq_true rfl) ?_
  refine ev_iload_n dX8_drawn_0 rfl ?_
  refine ev_iconst dX8_drawn_1 ?_
  refine ev_icmp_lt (tgt := 24) dX8_drawn_2 (by decide) (by omega) (by omega) (fun hb2 => ?_) (fun hb2 => ?_)
  · omega
  · refine ev_iload_n dX8_drawn_5 rfl ?_
    refine ev_bipush dX8_drawn_6 ?_
    refine ev_icmp_gt (tgt := 24) dX8_drawn_8 (by decide) (by omega) (by omega) (fun hb8 => ?_) (fun hb8 => ?_)
    · omega
    · refine ev_iload_n dX8_drawn_11 rfl ?_
      refine ev_if_lt (tgt := 24) dX8_drawn_12 (by decide) (by omega) (fun hb12 => ?_) (fun hb12 => ?_)
      · omega
      · refine ev_iload_n dX8_drawn_15 rfl ?_
        refine ev_if_lt (tgt := 24) dX8_drawn_16 (by decide) (by omega) (fun hb16 => ?_) (fun hb16 => ?_)
        · omega
        · refine ev_iload_n dX8_drawn_19 rfl ?_
          refine ev_iconst dX8_drawn_20 ?_
          refine ev_icmp_le (tgt := 27) dX8_drawn_21 (by decide) (by omega) (by omega) (fun hb21 => ?_) (fun hb21 => ?_)
          · refine ev_iconst dX8_drawn_27 ?_
            refine ev_istore dX8_drawn_28 (by decide) ?_
            refine ev_iconst dX8_drawn_30 ?_
            refine ev_istore dX8_drawn_31 (by decide) ?_
            first | refine ev_aload_n dX8_drawn_33 rfl ?_ | refine ev_aloadX_n dX8_drawn_33 rfl ?_
            refine ev_getR dX8_drawn_34 fX8_60 rfl (by first | rfl | assumption) (by first | rfl | assumption) ?_
            refine ev_iload_n dX8_drawn_37 rfl ?_
            refine ev_pI 0 dX8_drawn_38 sX8_228 rfl (by first | rfl | assumption) rfl ?_
            refine ev_iconst dX8_drawn_41 ?_
            refine ev_istore dX8_drawn_42 (by decide) ?_
            have x1 : upM M 51 0 s 51 0 = sdI s (12 * 0) := upM_s _ _ _ _
            have x2 : upM M 51 0 s 52 1 = 0 ∨ upM M 51 0 s 52 1 = 1 := by rw [upM_o (show (52 : Nat) ≠ 51 by decide)]; exact h52
            have l0 := lp (upM M 51 0 s) x1 x2 (fun q q1 _ _ => upM_o q1)
            exact ev_to l0 (by repeat (first | exact trivial | refine ⟨rfl, ?_⟩)) rfl rfl rfl rfl
          · omega
