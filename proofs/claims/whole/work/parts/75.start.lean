/-! ===== the law's entry, and the machine as it stands there (written by gen75.py) ===== -/
theorem MI_o {q : Nat} (h : q ≠ 54 ∧ q ≠ 59 ∧ q ≠ 64) (j : Int) : MI q j = 0 := by
  unfold MI
  rw [rwc_ne h.2.1, rwc_ne h.2.2, upM_o h.1]
  rfl
theorem MI_54 {j : Int} (h : j ≠ 23) : MI 54 j = 0 := by
  unfold MI
  rw [rwc_ne (by decide), rwc_ne (by decide), upM_n (Or.inr h)]
  rfl
theorem MI_23 : MI 54 23 = -1 := by
  unfold MI
  rw [rwc_ne (by decide), rwc_ne (by decide), upM_s]
theorem MI_64 {j : Int} (h : 0 ≤ j) (h2 : j < 15) : MI 64 j = -1 := by
  unfold MI
  rw [rwc_ne (by decide), rwc_at]
  unfold fillS
  rw [if_pos (by omega)]
theorem MI_sg : sgA MI := by
  intro p a hp ha
  unfold MI
  rw [rwc_at]
  unfold sgT
  rw [if_pos (by omega)]
  have e1 : (6 * p + a) / 6 = p := by omega
  have e2 : (6 * p + a) % 6 = a := by omega
  rw [e1, e2]
theorem MI_SR : SR MI 0 0 := by
  have o : ∀ q, (q ≠ 54 ∧ q ≠ 59 ∧ q ≠ 64) → ∀ j, MI q j = 0 := fun q h j => MI_o h j
  refine ⟨?_, ?_, ?_⟩
  · apply CI.mk
    case j =>
      apply CJ.mk
      case pg0 => rw [o 1 (by decide)]; omega
      case pg1 => rw [o 1 (by decide)]; omega
      case pgl => intro j j1 j2; rw [o 1 (by decide)] at j2; omega
      case sz => rw [o 9 (by decide)]; rfl
      case n6 => omega
      case ok => intro i hi; omega
      case b9 => intro j _ _; rw [o _ (by decide), o _ (by decide), o _ (by decide), o _ (by decide)]; omega
      case b4 => intro j _ _; rw [o _ (by decide), o _ (by decide), o _ (by decide), o _ (by decide)]; omega
      case b43 => intro j _ _; rw [o _ (by decide), o _ (by decide), o _ (by decide), o _ (by decide)]; omega
      case rd3 => rw [o 3 (by decide), o 3 (by decide), o 3 (by decide), o 3 (by decide)]; omega
      case rkb => intro j _ _; rw [o 38 (by decide)]; omega
      case sn0 => rw [o 40 (by decide)]; omega
      case sn1 => rw [o 40 (by decide)]; omega
      case snb => intro j _ _; rw [o 41 (by decide), o 49 (by decide)]; omega
      case snr => intro j _ _; rw [o 42 (by decide), o 50 (by decide)]; omega
      case im0 => rw [o 0 (by decide)]; omega
      case im1 => rw [o 0 (by decide)]; intro h; omega
      case rdg => rw [o 0 (by decide)]; omega
      case sc => rw [o 52 (by decide)]; omega
    case rn => intro h; omega
    case r0 => intro _; rw [o 14 (by decide)]
    case ct => intro h; omega
    case rk => intro j _ _; rw [o 39 (by decide)]; omega
  · apply KI.mk
    case pg0 => rw [MI_54 (by decide)]; omega
    case pg1 => rw [MI_54 (by decide)]; omega
    case pgl => intro j j1 j2; rw [MI_54 (by decide)] at j2; omega
    case sz => rw [MI_54 (by decide)]; rfl
    case n6 => omega
    case ok => intro i hi; omega
    case bd => intro j j1 j2; omega
    case ol => rw [MI_54 (by decide)]; omega
    case fr => intro _ h; omega
    case sg => exact MI_sg
    case rkb => intro j j1 j2; rw [MI_64 j1 j2]; omega
    case sn0 => rw [MI_54 (by decide)]; omega
    case sn1 => rw [MI_54 (by decide)]; omega
    case snb => intro j _ _; rw [o 65 (by decide), o 65 (by decide), o 65 (by decide)]; omega
    case pr => rw [MI_54 (by decide)]; omega
    case kp => rw [MI_23, MI_54 (by decide)]; omega
  · apply SL.mk
    case pg => rw [MI_54 (by decide), o 1 (by decide)]
    case pl => intro j hj; rw [o 1 (by decide)] at hj; omega
    case st => intro j hj; omega
    case rk =>
      intro kd q k1 k2 q1 q2
      unfold rkV
      rw [MI_64 (by omega) (by omega), o 39 (by decide), if_neg (by omega)]
    case rp => intro kd q k1 k2 q1 q2; rw [o 39 (by decide)] at q2; omega
    case sn => rw [MI_54 (by decide), o 40 (by decide)]
    case ss => intro j hj; rw [o 40 (by decide)] at hj; exact absurd hj (by simp)
    case rd => rw [MI_54 (by decide), o 0 (by decide)]
    case kp => rw [o 0 (by decide), MI_23, MI_54 (by decide)]; omega
    case ks => rw [o 0 (by decide)]; intro h; omega
    case kv => intro j _ _; rw [o 67 (by decide), o 67 (by decide), o 67 (by decide)]; omega
    case ct => rw [o 0 (by decide)]; omega
theorem w_cl7 : Cond.classLink RL 7 RX8 ∈ WSg := (wsg_in 91 (by decide +kernel) (by decide +kernel))
theorem w_cl10 : Cond.classLink RL 10 RX9 ∈ WSg := (wsg_in 832 (by decide +kernel) (by decide +kernel))
theorem lw_all {N : Nat} {xs : Nat → Int32} (hN : N ≤ 3072) : Ev (mL N xs) 0 [some (vX 0), none, none, none] [] [] Z0 P00 0 0 lwF := by
  refine ev_newO (ci := 8) dL_law_0 cls8 w_cl7 (wsg_in 92 (by decide +kernel) (by decide +kernel)) (wsg_in 72 (by decide +kernel) (by decide +kernel)) (by decide) (fresh_0 _) (Nat.le_of_ble_eq_true rfl) (Nat.le_of_ble_eq_true rfl) ?_
  refine ev_dup dL_law_3 ?_
  refine ev_calli n_X8_init dL_law_4 tX8_init.1 tX8_init.2.2.1 tX8_init.2.2.2.1 kL_9 tX8_init.2.1 tX8_init.2.2.2.2 ⟨⟨Nat.le_of_ble_eq_true rfl, Nat.le_of_ble_eq_true rfl⟩, Nat.le_of_ble_eq_true rfl, Nat.le_of_ble_eq_true rfl⟩ rfl (Nat.le_of_ble_eq_true rfl) ?_
  rintro r K' M' P' ⟨rfl, rfl, rfl, rfl⟩
  refine ev_astore_n dL_law_7 (show 1 < 4 by decide) ?_
  refine ev_newO (ci := 9) dL_law_8 cls9 w_cl10 (wsg_in 833 (by decide +kernel) (by decide +kernel)) (wsg_in 81 (by decide +kernel) (by decide +kernel)) (by decide) fresh_PC (Nat.le_of_ble_eq_true rfl) (Nat.le_of_ble_eq_true rfl) ?_
  refine ev_dup dL_law_11 ?_
  refine ev_calli n_X9_init dL_law_12 tX9_init.1 tX9_init.2.2.1 tX9_init.2.2.2.1 kL_12 tX9_init.2.1 tX9_init.2.2.2.2 ⟨⟨Nat.le_of_ble_eq_true rfl, Nat.le_of_ble_eq_true rfl⟩, Nat.le_of_ble_eq_true rfl, Nat.le_of_ble_eq_true rfl⟩ rfl (Nat.le_of_ble_eq_true rfl) ?_
  rintro r K' M' P' ⟨rfl, rfl, rfl, rfl⟩
  refine ev_astore_n dL_law_15 (show 2 < 4 by decide) ?_
  refine ev_iconst dL_law_16 ?_
  refine ev_istore_n dL_law_17 (show 3 < 4 by decide) ?_
  exact ev_to (lw_loop hN MI_SR) (by repeat (first | exact trivial | refine ⟨rfl, ?_⟩)) rfl rfl rfl rfl
theorem st_cls {s : State} {b : Nat} (htg : ∀ w ∈ WSg, w.before #[Value.ref b] s = true) : ∃ (dC : Nat → ClassId) (dI : Nat → Nat → Nat), ∀ (k : Nat) (q : vw_C), vwCl[k]? = some q → u_Kn s q.1 q.2.1 q.2.2 (dC k) (dI k) := by
  obtain ⟨c0, i0, h0⟩ := u_known (C := RX0) (T := TX0) (N := 1) (n := 1) htg cls0.2.1 (htg _ (wsg_in 255 (by decide +kernel) (by decide +kernel)))
  obtain ⟨c1, i1, h1⟩ := u_known (C := RX1) (T := TX1) (N := 2) (n := 2) htg cls1.2.1 (htg _ (wsg_in 100 (by decide +kernel) (by decide +kernel)))
  obtain ⟨c2, i2, h2⟩ := u_known (C := RX2) (T := TX2) (N := 2) (n := 2) htg cls2.2.1 (htg _ (wsg_in 224 (by decide +kernel) (by decide +kernel)))
  obtain ⟨c3, i3, h3⟩ := u_known (C := RX3) (T := TX3) (N := 7) (n := 7) htg cls3.2.1 (htg _ (wsg_in 118 (by decide +kernel) (by decide +kernel)))
  obtain ⟨c4, i4, h4⟩ := u_known (C := RX4) (T := TX4) (N := 6) (n := 6) htg cls4.2.1 (htg _ (wsg_in 181 (by decide +kernel) (by decide +kernel)))
  obtain ⟨c5, i5, h5⟩ := u_known (C := RX5) (T := TX5) (N := 3) (n := 3) htg cls5.2.1 (htg _ (wsg_in 238 (by decide +kernel) (by decide +kernel)))
  obtain ⟨c6, i6, h6⟩ := u_known (C := RX6) (T := TX6) (N := 2) (n := 2) htg cls6.2.1 (htg _ (wsg_in 188 (by decide +kernel) (by decide +kernel)))
  obtain ⟨c7, i7, h7⟩ := u_known (C := RX7) (T := TX7) (N := 5) (n := 5) htg cls7.2.1 (htg _ (wsg_in 124 (by decide +kernel) (by decide +kernel)))
  obtain ⟨c8, i8, h8⟩ := u_known (C := RX8) (T := TX8) (N := 12) (n := 12) htg cls8.2.1 (htg _ (wsg_in 92 (by decide +kernel) (by decide +kernel)))
  obtain ⟨c9, i9, h9⟩ := u_known (C := RX9) (T := TX9) (N := 29) (n := 29) htg cls9.2.1 (htg _ (wsg_in 833 (by decide +kernel) (by decide +kernel)))
  refine ⟨fun k => if k = 0 then c0 else if k = 1 then c1 else if k = 2 then c2 else if k = 3 then c3 else if k = 4 then c4 else if k = 5 then c5 else if k = 6 then c6 else if k = 7 then c7 else if k = 8 then c8 else c9, fun k => if k = 0 then i0 else if k = 1 then i1 else if k = 2 then i2 else if k = 3 then i3 else if k = 4 then i4 else if k = 5 then i5 else if k = 6 then i6 else if k = 7 then i7 else if k = 8 then i8 else i9, ?_⟩
  intro k q hq
  match k, hq with
  | 0, hq => cases hq; exact h0
  | 1, hq => cases hq; exact h1
  | 2, hq => cases hq; exact h2
  | 3, hq => cases hq; exact h3
  | 4, hq => cases hq; exact h4
  | 5, hq => cases hq; exact h5
  | 6, hq => cases hq; exact h6
  | 7, hq => cases hq; exact h7
  | 8, hq => cases hq; exact h8
  | 9, hq => cases hq; exact h9
  | k + 10, hq => simp [vwCl] at hq
theorem st_En {s : State} {b L : Nat} {xs : Nat → Int32} (hts : ∀ w ∈ lw_tbl, w.before #[Value.ref b] s = true) (hX : va_X b L xs s s.heap) (hbl : b < s.heap.size) (hgv : (Jvm.Cond.and given_1 narrow_1).before #[Value.ref b] s = true) : ∃ g : Gv, En g s ∧ gb g = s.heap.size ∧ gL g = L ∧ gs g = xs ∧ gx g 0 = some b := by
  have htg : ∀ w ∈ WSg, w.before #[Value.ref b] s = true := fun w hw => hts w (List.mem_filter.mp hw).1
  have hs := flat_of_before _ hgv
  have hA : ∀ a : Nat, a < s.heap.size → ¬ eA s.heap.size a := fun a h => Nat.not_le.mpr h
  obtain ⟨dC, dI, hKc⟩ := st_cls htg
  obtain ⟨cI, kI, mI, f1, f2, f3⟩ := Cond.arrayClass_spec (htg _ w_arrI)
  obtain ⟨mS, cS, kS, g1, -, g2, g3, g4⟩ := Cond.arrayOver_spec (hts (Cond.arrayOver (.object RX6)) (List.mem_of_getElem? (i := 187) (by decide +kernel)))
  obtain ⟨a1, ha1, hT1⟩ := va_Tof (tm := (Term.static RX5 "COULD" "[I")) (ty := .int) (N := 4) (f := fun j => .int (([27, 14, 20, 16] : List Int32).getD j 0)) (A := eA s.heap.size) (args := #[Value.ref b]) (s := s) (by decide) (hs (Cond.arrayOf (Term.static RX5 "COULD" "[I") .int) (by decide +kernel)) (va_eqt (hs (Cond.eq (.length (Term.static RX5 "COULD" "[I")) (.int 4)) (by decide +kernel))) (fun j hj => by
    match j, hj with
    | 0, _ => exact va_eqt (hs (Cond.eq (.elem (Term.static RX5 "COULD" "[I") (.int 0)) (.int 27)) (by decide +kernel))
    | 1, _ => exact va_eqt (hs (Cond.eq (.elem (Term.static RX5 "COULD" "[I") (.int 1)) (.int 14)) (by decide +kernel))
    | 2, _ => exact va_eqt (hs (Cond.eq (.elem (Term.static RX5 "COULD" "[I") (.int 2)) (.int 20)) (by decide +kernel))
    | 3, _ => exact va_eqt (hs (Cond.eq (.elem (Term.static RX5 "COULD" "[I") (.int 3)) (.int 16)) (by decide +kernel))
    | k + 4, h => exact absurd h (by omega)) hA
  have hZ1 : va_Z RX5 "COULD" "[I" (.ref a1) (eA s.heap.size) s s.heap := va_Zof (hts (Cond.laysStatic RX5 "COULD" "[I") (List.mem_of_getElem? (i := 617) (by decide +kernel))) (hts (Cond.initialized RX5) (List.mem_of_getElem? (i := 79) (by decide +kernel))) ha1 hA
  have hZ2 : va_Z "java/lang/String" "COMPACT_STRINGS" "Z" (.int 1) (eA s.heap.size) s s.heap := va_Zof (hts (Cond.laysStatic "java/lang/String" "COMPACT_STRINGS" "Z") (List.mem_of_getElem? (i := 346) (by decide +kernel))) (hts (Cond.initialized "java/lang/String") (List.mem_of_getElem? (i := 82) (by decide +kernel))) (va_eqi (hs (Cond.eq (.static "java/lang/String" "COMPACT_STRINGS" "Z") (.int 1)) (by decide +kernel))) hA
  obtain ⟨fm, hZ3⟩ : ∃ fm : Option Nat, va_Z "jdk/internal/util/Preconditions" "SIOOBE_FORMATTER" "Ljava/util/function/BiFunction;" (va_rf fm) (eA s.heap.size) s s.heap := by
    rcases va_Zqof (hts (Cond.laysStatic "jdk/internal/util/Preconditions" "SIOOBE_FORMATTER" "Ljava/util/function/BiFunction;") (List.mem_of_getElem? (i := 389) (by decide +kernel))) (hts (Cond.initialized "jdk/internal/util/Preconditions") (List.mem_of_getElem? (i := 86) (by decide +kernel))) (hs (Cond.isRef (.static "jdk/internal/util/Preconditions" "SIOOBE_FORMATTER" "Ljava/util/function/BiFunction;")) (by decide +kernel)) hA with h | ⟨t, h⟩
    · exact ⟨none, h⟩
    · exact ⟨some t, h⟩
  have hex : ∀ i : Nat, i < 6 → (Cond.exactly (Term.string RX3 (s_ix.getD i 0)) "java/lang/String").before #[Value.ref b] s = true := fun i hi => by
    match i, hi with
    | 0, _ => exact hs (Cond.exactly (Term.string RX3 80) "java/lang/String") (by decide +kernel)
    | 1, _ => exact hs (Cond.exactly (Term.string RX3 93) "java/lang/String") (by decide +kernel)
    | 2, _ => exact hs (Cond.exactly (Term.string RX3 95) "java/lang/String") (by decide +kernel)
    | 3, _ => exact hs (Cond.exactly (Term.string RX3 97) "java/lang/String") (by decide +kernel)
    | 4, _ => exact hs (Cond.exactly (Term.string RX3 99) "java/lang/String") (by decide +kernel)
    | 5, _ => exact hs (Cond.exactly (Term.string RX3 101) "java/lang/String") (by decide +kernel)
    | k + 6, h => exact absurd h (by omega)
  have hco : ∀ i : Nat, i < 6 → (Cond.eq (.field (Term.string RX3 (s_ix.getD i 0)) "java/lang/String" "coder" "B") (.int 0)).before #[Value.ref b] s = true := fun i hi => by
    match i, hi with
    | 0, _ => exact hs (Cond.eq (.field (Term.string RX3 80) "java/lang/String" "coder" "B") (.int 0)) (by decide +kernel)
    | 1, _ => exact hs (Cond.eq (.field (Term.string RX3 93) "java/lang/String" "coder" "B") (.int 0)) (by decide +kernel)
    | 2, _ => exact hs (Cond.eq (.field (Term.string RX3 95) "java/lang/String" "coder" "B") (.int 0)) (by decide +kernel)
    | 3, _ => exact hs (Cond.eq (.field (Term.string RX3 97) "java/lang/String" "coder" "B") (.int 0)) (by decide +kernel)
    | 4, _ => exact hs (Cond.eq (.field (Term.string RX3 99) "java/lang/String" "coder" "B") (.int 0)) (by decide +kernel)
    | 5, _ => exact hs (Cond.eq (.field (Term.string RX3 101) "java/lang/String" "coder" "B") (.int 0)) (by decide +kernel)
    | k + 6, h => exact absurd h (by omega)
  have har : ∀ i : Nat, i < 6 → (Cond.arrayOf (.field (Term.string RX3 (s_ix.getD i 0)) "java/lang/String" "value" "[B") .byte).before #[Value.ref b] s = true := fun i hi => by
    match i, hi with
    | 0, _ => exact hs (Cond.arrayOf (Term.field (Term.string RX3 80) "java/lang/String" "value" "[B") .byte) (by decide +kernel)
    | 1, _ => exact hs (Cond.arrayOf (Term.field (Term.string RX3 93) "java/lang/String" "value" "[B") .byte) (by decide +kernel)
    | 2, _ => exact hs (Cond.arrayOf (Term.field (Term.string RX3 95) "java/lang/String" "value" "[B") .byte) (by decide +kernel)
    | 3, _ => exact hs (Cond.arrayOf (Term.field (Term.string RX3 97) "java/lang/String" "value" "[B") .byte) (by decide +kernel)
    | 4, _ => exact hs (Cond.arrayOf (Term.field (Term.string RX3 99) "java/lang/String" "value" "[B") .byte) (by decide +kernel)
    | 5, _ => exact hs (Cond.arrayOf (Term.field (Term.string RX3 101) "java/lang/String" "value" "[B") .byte) (by decide +kernel)
    | k + 6, h => exact absurd h (by omega)
  have hle : ∀ i : Nat, i < 6 → (Cond.eq (.length (.field (Term.string RX3 (s_ix.getD i 0)) "java/lang/String" "value" "[B")) (.int (Int32.ofNat (s_len.getD i 0)))).before #[Value.ref b] s = true := fun i hi => by
    match i, hi with
    | 0, _ => exact hs (Cond.eq (.length (Term.field (Term.string RX3 80) "java/lang/String" "value" "[B")) (.int 5)) (by decide +kernel)
    | 1, _ => exact hs (Cond.eq (.length (Term.field (Term.string RX3 93) "java/lang/String" "value" "[B")) (.int 4)) (by decide +kernel)
    | 2, _ => exact hs (Cond.eq (.length (Term.field (Term.string RX3 95) "java/lang/String" "value" "[B")) (.int 4)) (by decide +kernel)
    | 3, _ => exact hs (Cond.eq (.length (Term.field (Term.string RX3 97) "java/lang/String" "value" "[B")) (.int 1)) (by decide +kernel)
    | 4, _ => exact hs (Cond.eq (.length (Term.field (Term.string RX3 99) "java/lang/String" "value" "[B")) (.int 3)) (by decide +kernel)
    | 5, _ => exact hs (Cond.eq (.length (Term.field (Term.string RX3 101) "java/lang/String" "value" "[B")) (.int 1)) (by decide +kernel)
    | k + 6, h => exact absurd h (by omega)
  have hel : ∀ i : Nat, i < 6 → ∀ j : Nat, j < s_len.getD i 0 → (Cond.eq (.elem (.field (Term.string RX3 (s_ix.getD i 0)) "java/lang/String" "value" "[B") (.int (Int32.ofNat j))) (.int ((s_byt.getD i []).getD j 0))).before #[Value.ref b] s = true := fun i hi j hj => by
    match i, hi, j, hj with
    | 0, _, 0, _ => exact hs (Cond.eq (.elem (Term.field (Term.string RX3 80) "java/lang/String" "value" "[B") (.int 0)) (.int 116)) (by decide +kernel)
    | 0, _, 1, _ => exact hs (Cond.eq (.elem (Term.field (Term.string RX3 80) "java/lang/String" "value" "[B") (.int 1)) (.int 115)) (by decide +kernel)
    | 0, _, 2, _ => exact hs (Cond.eq (.elem (Term.field (Term.string RX3 80) "java/lang/String" "value" "[B") (.int 2)) (.int 102)) (by decide +kernel)
    | 0, _, 3, _ => exact hs (Cond.eq (.elem (Term.field (Term.string RX3 80) "java/lang/String" "value" "[B") (.int 3)) (.int 97)) (by decide +kernel)
    | 0, _, 4, _ => exact hs (Cond.eq (.elem (Term.field (Term.string RX3 80) "java/lang/String" "value" "[B") (.int 4)) (.int 119)) (by decide +kernel)
    | 1, _, 0, _ => exact hs (Cond.eq (.elem (Term.field (Term.string RX3 93) "java/lang/String" "value" "[B") (.int 0)) (.int 120)) (by decide +kernel)
    | 1, _, 1, _ => exact hs (Cond.eq (.elem (Term.field (Term.string RX3 93) "java/lang/String" "value" "[B") (.int 1)) (.int 120)) (by decide +kernel)
    | 1, _, 2, _ => exact hs (Cond.eq (.elem (Term.field (Term.string RX3 93) "java/lang/String" "value" "[B") (.int 2)) (.int 43)) (by decide +kernel)
    | 1, _, 3, _ => exact hs (Cond.eq (.elem (Term.field (Term.string RX3 93) "java/lang/String" "value" "[B") (.int 3)) (.int 100)) (by decide +kernel)
    | 2, _, 0, _ => exact hs (Cond.eq (.elem (Term.field (Term.string RX3 95) "java/lang/String" "value" "[B") (.int 0)) (.int 110)) (by decide +kernel)
    | 2, _, 1, _ => exact hs (Cond.eq (.elem (Term.field (Term.string RX3 95) "java/lang/String" "value" "[B") (.int 1)) (.int 120)) (by decide +kernel)
    | 2, _, 2, _ => exact hs (Cond.eq (.elem (Term.field (Term.string RX3 95) "java/lang/String" "value" "[B") (.int 2)) (.int 43)) (by decide +kernel)
    | 2, _, 3, _ => exact hs (Cond.eq (.elem (Term.field (Term.string RX3 95) "java/lang/String" "value" "[B") (.int 3)) (.int 100)) (by decide +kernel)
    | 3, _, 0, _ => exact hs (Cond.eq (.elem (Term.field (Term.string RX3 97) "java/lang/String" "value" "[B") (.int 0)) (.int 110)) (by decide +kernel)
    | 4, _, 0, _ => exact hs (Cond.eq (.elem (Term.field (Term.string RX3 99) "java/lang/String" "value" "[B") (.int 0)) (.int 110)) (by decide +kernel)
    | 4, _, 1, _ => exact hs (Cond.eq (.elem (Term.field (Term.string RX3 99) "java/lang/String" "value" "[B") (.int 1)) (.int 43)) (by decide +kernel)
    | 4, _, 2, _ => exact hs (Cond.eq (.elem (Term.field (Term.string RX3 99) "java/lang/String" "value" "[B") (.int 2)) (.int 100)) (by decide +kernel)
    | 5, _, 0, _ => exact hs (Cond.eq (.elem (Term.field (Term.string RX3 101) "java/lang/String" "value" "[B") (.int 0)) (.int 107)) (by decide +kernel)
    | 0, _, k + 5, h => exact absurd h (show ¬ k + 5 < 5 by omega)
    | 1, _, k + 4, h => exact absurd h (show ¬ k + 4 < 4 by omega)
    | 2, _, k + 4, h => exact absurd h (show ¬ k + 4 < 4 by omega)
    | 3, _, k + 1, h => exact absurd h (show ¬ k + 1 < 1 by omega)
    | 4, _, k + 3, h => exact absurd h (show ¬ k + 3 < 3 by omega)
    | 5, _, k + 1, h => exact absurd h (show ¬ k + 1 < 1 by omega)
    | k + 6, h, _, _ => exact absurd h (by omega)
  have hne : ∀ i j : Nat, i < 6 → j < 6 → i ≠ j → (Cond.not (Cond.eq (Term.string RX3 (s_ix.getD i 0)) (Term.string RX3 (s_ix.getD j 0)))).before #[Value.ref b] s = true ∨ (Cond.not (Cond.eq (Term.string RX3 (s_ix.getD j 0)) (Term.string RX3 (s_ix.getD i 0)))).before #[Value.ref b] s = true := fun i j hi hj hij => by
    match i, hi, j, hj, hij with
    | 0, _, 0, _, h => exact absurd rfl h
    | 0, _, 1, _, _ => exact Or.inl (hs (Cond.not (Cond.eq (Term.string RX3 80) (Term.string RX3 93))) (by decide +kernel))
    | 0, _, 2, _, _ => exact Or.inl (hs (Cond.not (Cond.eq (Term.string RX3 80) (Term.string RX3 95))) (by decide +kernel))
    | 0, _, 3, _, _ => exact Or.inl (hs (Cond.not (Cond.eq (Term.string RX3 80) (Term.string RX3 97))) (by decide +kernel))
    | 0, _, 4, _, _ => exact Or.inl (hs (Cond.not (Cond.eq (Term.string RX3 80) (Term.string RX3 99))) (by decide +kernel))
    | 0, _, 5, _, _ => exact Or.inl (hs (Cond.not (Cond.eq (Term.string RX3 80) (Term.string RX3 101))) (by decide +kernel))
    | 1, _, 0, _, _ => exact Or.inr (hs (Cond.not (Cond.eq (Term.string RX3 80) (Term.string RX3 93))) (by decide +kernel))
    | 1, _, 1, _, h => exact absurd rfl h
    | 1, _, 2, _, _ => exact Or.inl (hs (Cond.not (Cond.eq (Term.string RX3 93) (Term.string RX3 95))) (by decide +kernel))
    | 1, _, 3, _, _ => exact Or.inl (hs (Cond.not (Cond.eq (Term.string RX3 93) (Term.string RX3 97))) (by decide +kernel))
    | 1, _, 4, _, _ => exact Or.inl (hs (Cond.not (Cond.eq (Term.string RX3 93) (Term.string RX3 99))) (by decide +kernel))
    | 1, _, 5, _, _ => exact Or.inl (hs (Cond.not (Cond.eq (Term.string RX3 93) (Term.string RX3 101))) (by decide +kernel))
    | 2, _, 0, _, _ => exact Or.inr (hs (Cond.not (Cond.eq (Term.string RX3 80) (Term.string RX3 95))) (by decide +kernel))
    | 2, _, 1, _, _ => exact Or.inr (hs (Cond.not (Cond.eq (Term.string RX3 93) (Term.string RX3 95))) (by decide +kernel))
    | 2, _, 2, _, h => exact absurd rfl h
    | 2, _, 3, _, _ => exact Or.inl (hs (Cond.not (Cond.eq (Term.string RX3 95) (Term.string RX3 97))) (by decide +kernel))
    | 2, _, 4, _, _ => exact Or.inl (hs (Cond.not (Cond.eq (Term.string RX3 95) (Term.string RX3 99))) (by decide +kernel))
    | 2, _, 5, _, _ => exact Or.inl (hs (Cond.not (Cond.eq (Term.string RX3 95) (Term.string RX3 101))) (by decide +kernel))
    | 3, _, 0, _, _ => exact Or.inr (hs (Cond.not (Cond.eq (Term.string RX3 80) (Term.string RX3 97))) (by decide +kernel))
    | 3, _, 1, _, _ => exact Or.inr (hs (Cond.not (Cond.eq (Term.string RX3 93) (Term.string RX3 97))) (by decide +kernel))
    | 3, _, 2, _, _ => exact Or.inr (hs (Cond.not (Cond.eq (Term.string RX3 95) (Term.string RX3 97))) (by decide +kernel))
    | 3, _, 3, _, h => exact absurd rfl h
    | 3, _, 4, _, _ => exact Or.inl (hs (Cond.not (Cond.eq (Term.string RX3 97) (Term.string RX3 99))) (by decide +kernel))
    | 3, _, 5, _, _ => exact Or.inl (hs (Cond.not (Cond.eq (Term.string RX3 97) (Term.string RX3 101))) (by decide +kernel))
    | 4, _, 0, _, _ => exact Or.inr (hs (Cond.not (Cond.eq (Term.string RX3 80) (Term.string RX3 99))) (by decide +kernel))
    | 4, _, 1, _, _ => exact Or.inr (hs (Cond.not (Cond.eq (Term.string RX3 93) (Term.string RX3 99))) (by decide +kernel))
    | 4, _, 2, _, _ => exact Or.inr (hs (Cond.not (Cond.eq (Term.string RX3 95) (Term.string RX3 99))) (by decide +kernel))
    | 4, _, 3, _, _ => exact Or.inr (hs (Cond.not (Cond.eq (Term.string RX3 97) (Term.string RX3 99))) (by decide +kernel))
    | 4, _, 4, _, h => exact absurd rfl h
    | 4, _, 5, _, _ => exact Or.inl (hs (Cond.not (Cond.eq (Term.string RX3 99) (Term.string RX3 101))) (by decide +kernel))
    | 5, _, 0, _, _ => exact Or.inr (hs (Cond.not (Cond.eq (Term.string RX3 80) (Term.string RX3 101))) (by decide +kernel))
    | 5, _, 1, _, _ => exact Or.inr (hs (Cond.not (Cond.eq (Term.string RX3 93) (Term.string RX3 101))) (by decide +kernel))
    | 5, _, 2, _, _ => exact Or.inr (hs (Cond.not (Cond.eq (Term.string RX3 95) (Term.string RX3 101))) (by decide +kernel))
    | 5, _, 3, _, _ => exact Or.inr (hs (Cond.not (Cond.eq (Term.string RX3 97) (Term.string RX3 101))) (by decide +kernel))
    | 5, _, 4, _, _ => exact Or.inr (hs (Cond.not (Cond.eq (Term.string RX3 99) (Term.string RX3 101))) (by decide +kernel))
    | 5, _, 5, _, h => exact absurd rfl h
    | k + 6, h, _, _, _ => exact absurd h (by omega)
    | _, _, k + 6, h, _ => exact absurd h (by omega)
  obtain ⟨adK, adV, hVS, hVE⟩ := vk_Sof (N := 6) (tm := fun i => Term.string RX3 (s_ix.getD i 0)) (len := s_len) (byt := s_byt) (A := eA s.heap.size) (args := #[Value.ref b]) (s := s) (by decide) hex hco har hle hel hne hA
  have hR : ∀ i : Nat, i < 6 → vk_R RX3 (s_ix.getD i 0) (s_tx.getD i "") (adK i) s := fun i hi => by
    refine vk_R.of (A := #[Value.ref b]) ?_ (hVE i hi)
    match i, hi with
    | 0, _ => exact hts (Cond.stringRef RX3 80 "tsfaw") (List.mem_of_getElem? (i := 332) (by decide +kernel))
    | 1, _ => exact hts (Cond.stringRef RX3 93 "xx+d") (List.mem_of_getElem? (i := 426) (by decide +kernel))
    | 2, _ => exact hts (Cond.stringRef RX3 95 "nx+d") (List.mem_of_getElem? (i := 427) (by decide +kernel))
    | 3, _ => exact hts (Cond.stringRef RX3 97 "n") (List.mem_of_getElem? (i := 428) (by decide +kernel))
    | 4, _ => exact hts (Cond.stringRef RX3 99 "n+d") (List.mem_of_getElem? (i := 429) (by decide +kernel))
    | 5, _ => exact hts (Cond.stringRef RX3 101 "k") (List.mem_of_getElem? (i := 430) (by decide +kernel))
    | k + 6, h => exact absurd h (by omega)
  refine ⟨((dC, dI), cI, cS, s.heap.size, fun k => if k = 0 then some b else if k = 1 then some a1 else if k < 8 then some (adK (k - 2)) else if k < 14 then some (adV (k - 8)) else fm, L, xs), ⟨⟨hKc, fun k q hq => ?_⟩, Nat.le_refl _, ⟨b, a1, adK, adV, rfl, rfl, fun i hi => ?_, fun i hi => ?_, hX, hbl, hZ1, hT1, hZ2, hZ3, hVS, hR⟩, hts (Cond.arrayOver (.object RX6)) (List.mem_of_getElem? (i := 187) (by decide +kernel)), fun w hw => ?_⟩, rfl, rfl, rfl, rfl⟩
  · match k, hq with
    | 0, hq =>
      cases hq
      exact ⟨fun n z => ⟨fun k h => (by cases h), kI, f2, mI, f3⟩, f1⟩
    | 1, hq =>
      cases hq
      exact ⟨fun n z => ⟨fun k h => (by cases h), kS, g2, mS, g3⟩, kS, mS, g2, g3, g1, g4⟩
    | k + 2, hq => simp at hq
  · show (if 2 + i = 0 then some b else if 2 + i = 1 then some a1 else if 2 + i < 8 then some (adK (2 + i - 2)) else if 2 + i < 14 then some (adV (2 + i - 8)) else fm) = some (adK i)
    rw [if_neg (by omega), if_neg (by omega), if_pos (by omega), Nat.add_sub_cancel_left]
  · show (if 8 + i = 0 then some b else if 8 + i = 1 then some a1 else if 8 + i < 8 then some (adK (8 + i - 2)) else if 8 + i < 14 then some (adV (8 + i - 8)) else fm) = some (adV i)
    rw [if_neg (by omega), if_neg (by omega), if_neg (by omega), if_pos (by omega), Nat.add_sub_cancel_left]
  · have h1 := hts w (List.mem_filter.mp hw).1
    have h2 := (List.mem_filter.mp hw).2
    refine va_Nw.of ?_ h1
    cases w <;> first | rfl | (simp [isNest] at h2)
