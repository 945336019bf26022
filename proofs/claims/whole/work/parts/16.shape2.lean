/-! ===== Shape.close, fill, copy ===== -/
theorem bdd_mono {B B' : Int} {f : Int → Int} (h : bdd B f) (hB : B ≤ B') : bdd B' f := fun j h1 h2 => by
  have := h j h1 h2
  omega
theorem cl1_bd {B : Int} {f : Int → Int} (h : bdd B f) (hB : 0 ≤ B) : ∀ i : Nat, i ≤ 6 → bdd (B * 3 ^ i) (cl1 i f) ∧ 0 ≤ B * 3 ^ i := by
  intro i
  induction i with
  | zero => intro _; exact ⟨by simpa [cl1] using h, by simpa using hB⟩
  | succ i ih =>
    intro hi
    obtain ⟨h1, h2⟩ := ih (by omega)
    have e : B * 3 ^ (i + 1) = 3 * (B * 3 ^ i) := by rw [Int.pow_succ, ← Int.mul_assoc, Int.mul_comm]
    rw [e]
    refine ⟨fun j q1 q2 => ?_, by omega⟩
    have := (chS_bd (b := (i : Int)) (by omega) (by omega) h1 h2 6 (by omega)).1 j q1 q2
    show -(3 * (B * 3 ^ i)) ≤ chS i 6 (cl1 i f) j ∧ chS i 6 (cl1 i f) j ≤ 3 * (B * 3 ^ i)
    omega
theorem bdd_up {B : Int} {f : Int → Int} (h : bdd B f) {i z : Int} (hz : -B ≤ z ∧ z ≤ B) : bdd B (up1 f i z) := by
  intro j h1 h2
  unfold up1
  split
  · exact hz
  · exact h j h1 h2
theorem bdd_st2 {B : Int} {f : Int → Int} (h : bdd B f) {a b z : Int} (hz : -B ≤ z ∧ z ≤ B) : bdd B (st2 f a b z) := bdd_up (bdd_up h hz) hz
theorem bdd_lim {B : Int} {f : Int → Int} (h : bdd B f) {a b z : Int} (hz : -B ≤ z ∧ z ≤ B) : bdd B (limF f a b z) := by
  unfold limF
  split
  · exact bdd_st2 h hz
  · exact h
theorem evS_bd {g : Int → Int} (h : bdd 80000 g) : ∀ i : Nat, i ≤ 6 → bdd 80000 (evS i g) := by
  intro i
  induction i with
  | zero => intro _; exact h
  | succ i ih =>
    intro hi
    have h1 := ih (by omega)
    have h2 := h1 ((i : Int) * 6 + i) (by omega) (by omega)
    exact bdd_up h1 (by omega)
theorem hvR_bd {f : Int → Int} (h : bdd 80000 f) {i : Int} (hi : 0 ≤ i) (hi2 : i < 6) : ∀ k : Nat, k ≤ 6 → bdd 80000 (hvR i k f) := by
  intro k
  induction k with
  | zero => intro _; exact h
  | succ k ih =>
    intro hk
    have h1 := ih (by omega)
    have h2 := h1 (i * 6 + i) (by omega) (by omega)
    have h3 := h1 ((k : Int) * 6 + k) (by omega) (by omega)
    refine bdd_lim h1 ?_
    have h4 : -160000 ≤ hvR i k f (i * 6 + i) + hvR i k f ((k : Int) * 6 + k) ∧ hvR i k f (i * 6 + i) + hvR i k f ((k : Int) * 6 + k) ≤ 160000 := by omega
    generalize hvR i k f (i * 6 + i) + hvR i k f ((k : Int) * 6 + k) = w at h4
    have h5 : (w.tdiv 2).natAbs = w.natAbs / 2 := Int.natAbs_tdiv w 2
    omega
theorem hvS_bd {f : Int → Int} (h : bdd 80000 f) : ∀ i : Nat, i ≤ 6 → bdd 80000 (hvS i f) := by
  intro i
  induction i with
  | zero => intro _; exact h
  | succ i ih => intro hi; exact hvR_bd (ih (by omega)) (by omega) (by omega) i (by omega)
theorem st2_diag (f : Int → Int) (a z : Int) : st2 f a a z = up1 f (a * 6 + a) z := by
  funext j
  simp only [st2, up1]
  split <;> rfl
/-- memory behind close -/
def clM (M : Mm) (c : Nat) : Mm := if M c 1 = 0 then rwc (rwc M c (up1 (M c) 1 (emF (M (c + 1))))) (c + 1) (closeF (M (c + 1))) else M
theorem c_close {c : Nat} (hs : isSh c) (M : Mm) (hB : bdd 100 (M (c + 1))) (he : M c 1 = 0 ∨ M c 1 = 1) : Cm mX6_close [vR c] M (fun r M' => r = none ∧ M' = clM M c) := by
  obtain ⟨hs1, hs2, hs3⟩ := id hs
  have hne : c ≠ c + 1 := by omega
  refine cm_of (by decide +kernel) (fun _ => trivial) (Nat.le_of_ble_eq_true rfl) ?_
  first | refine ev_aload_n dX6_close_0 rfl ?_ | refine ev_aloadX_n dX6_close_0 rfl ?_
  refine ev_gI 1 dX6_close_1 fX6_15 rfl (by first | rfl | assumption) rfl ?_
  refine ev_if_eq (tgt := 8) dX6_close_4 (by decide) (by omega) (fun h0 => ?_) (fun h0 => ?_)
  · refine ev_iconst dX6_close_8 ?_
    refine ev_istore_n dX6_close_9 (by decide) ?_
    refine ev_to (L' := [some (vR c), some (vI ((0 : Nat) : Int)), none]) (S' := []) (M' := rwc M (c + 1) (cl1 0 (M (c + 1)))) (k' := 0) (n' := 0) ?_ ⟨rfl, rfl, trivial⟩ (by show M = rwc M (c + 1) (M (c + 1)); rw [rwc_self]) rfl rfl rfl
    refine up_loop (P := fun i => Ev mX6_close 10 [some (vR c), some (vI (i : Int)), none] [] KK (rwc M (c + 1) (cl1 i (M (c + 1)))) PP 0 0 _) 6 ?_ ?_
    case refine_2 =>
      intro i hi hP
      obtain ⟨b1, b2⟩ := cl1_bd hB (by omega) i (by omega)
      have b3 : (100 : Int) * 3 ^ i ≤ 100 * 729 := by
        have : i = 0 ∨ i = 1 ∨ i = 2 ∨ i = 3 ∨ i = 4 ∨ i = 5 := by omega
        rcases this with rfl | rfl | rfl | rfl | rfl | rfl <;> decide
      refine ev_iload_n dX6_close_10 rfl ?_
      refine ev_bipush dX6_close_11 ?_
      refine ev_icmp_ge (tgt := 27) dX6_close_13 (by decide) (by omega) (by omega) (fun h => ?_) (fun h => ?_)
      · omega
      first | refine ev_aload_n dX6_close_16 rfl ?_ | refine ev_aloadX_n dX6_close_16 rfl ?_
      refine ev_iload_n dX6_close_17 rfl ?_
      refine ev_callv (ci := 6) (c_chainBy hs (by omega) (by omega) _ (by rw [rwc_at]; exact b1) b2 (by omega)) dX6_close_18 tX6_chainBy.1 kX6_39 tX6_chainBy.2.1 tX6_chainBy.2.2.1 rfl (by first | rfl | assumption) tX6_chainBy.2.2.2 ⟨⟨Nat.le_of_ble_eq_true rfl, Nat.le_of_ble_eq_true rfl⟩, Nat.le_of_ble_eq_true rfl, Nat.le_of_ble_eq_true rfl⟩ rfl (Nat.le_of_ble_eq_true rfl) ?_
      rintro r K' M' P' ⟨rfl, rfl, rfl, rfl⟩
      refine ev_iinc dX6_close_21 rfl (by decide) ?_
      refine ev_goto (tgt := 10) dX6_close_24 (by decide) ?_
      refine ev_to hP ⟨rfl, rfl, trivial⟩ ?_ rfl rfl rfl
      rw [rwc_rwc, rwc_at]
      rfl
    have g0 := (cl1_bd hB (by omega) 6 (by omega)).1
    have g1 : bdd 80000 (cl1 6 (M (c + 1))) := bdd_mono g0 (by decide)
    generalize hg : cl1 6 (M (c + 1)) = g at g1 ⊢
    refine ev_iload_n dX6_close_10 rfl ?_
    refine ev_bipush dX6_close_11 ?_
    refine ev_icmp_ge (tgt := 27) dX6_close_13 (by decide) (by omega) (by omega) (fun h => ?_) (fun h => ?_)
    case refine_2 => omega
    refine ev_iconst dX6_close_27 ?_
    refine ev_istore_n dX6_close_28 (by decide) ?_
    refine ev_to (L' := [some (vR c), some (vI ((0 : Nat) : Int)), none]) (S' := []) (M' := rwc (rwc M c (up1 (M c) 1 (em1 0 g))) (c + 1) (evS 0 g)) (k' := 0) (n' := 0) ?_ ⟨rfl, rfl, trivial⟩ (by
      show rwc M (c + 1) g = rwc (rwc M c (up1 (M c) 1 0)) (c + 1) g
      have e : up1 (M c) 1 0 = M c := by rw [← h0]; exact up1_id _ _
      rw [e, rwc_self]) rfl rfl rfl
    refine up_loop (P := fun i => Ev mX6_close 29 [some (vR c), some (vI (i : Int)), none] [] KK (rwc (rwc M c (up1 (M c) 1 (em1 i g))) (c + 1) (evS i g)) PP 0 0 _) 6 ?_ ?_
    case refine_2 =>
      intro i hi hP
      have b1 := evS_bd g1 i (by omega)
      have n1 := nx_rng (a := (i : Int)) (by omega) (by omega)
      have b2 := b1 ((i : Int) * 6 + nx i) (by omega) (by omega)
      have b3 := b1 ((i : Int) * 6 + i) (by omega) (by omega)
      refine ev_iload_n dX6_close_29 rfl ?_
      refine ev_bipush dX6_close_30 ?_
      refine ev_icmp_ge (tgt := 72) dX6_close_32 (by decide) (by omega) (by omega) (fun h => ?_) (fun h => ?_)
      · omega
      first | refine ev_aload_n dX6_close_35 rfl ?_ | refine ev_aloadX_n dX6_close_35 rfl ?_
      refine ev_iload_n dX6_close_36 rfl ?_
      refine ev_iload_n dX6_close_37 rfl ?_
      refine ev_iconst dX6_close_38 ?_
      refine ev_ixor dX6_close_39 ?_
      rw [xor1 (by omega) (by omega)]
      refine ev_callv (ci := 6) (c_boundOf hs (by omega) (by omega) n1.1 n1.2 _) dX6_close_40 tX6_boundOf.1 kX6_31 tX6_boundOf.2.1 tX6_boundOf.2.2.1 rfl (by first | rfl | assumption) tX6_boundOf.2.2.2 ⟨⟨Nat.le_of_ble_eq_true rfl, Nat.le_of_ble_eq_true rfl⟩, Nat.le_of_ble_eq_true rfl, Nat.le_of_ble_eq_true rfl⟩ rfl (Nat.le_of_ble_eq_true rfl) ?_
      rintro r K' M' P' ⟨rfl, rfl, rfl, rfl⟩
      rw [rwc_at]
      have rest : Ev mX6_close 51 [some (vR c), some (vI (i : Int)), none] [] KK (rwc (rwc M c (up1 (M c) 1 (em1 (i + 1) g))) (c + 1) (evS i g)) PP 0 0 (Rz mX6_close (fun r M' => r = none ∧ M' = clM M c)) := by
        first | refine ev_aload_n dX6_close_51 rfl ?_ | refine ev_aloadX_n dX6_close_51 rfl ?_
        refine ev_iload_n dX6_close_52 rfl ?_
        refine ev_iload_n dX6_close_53 rfl ?_
        first | refine ev_aload_n dX6_close_54 rfl ?_ | refine ev_aloadX_n dX6_close_54 rfl ?_
        refine ev_iload_n dX6_close_55 rfl ?_
        refine ev_iload_n dX6_close_56 rfl ?_
        refine ev_callv (ci := 6) (c_boundOf hs (by omega) (by omega) (by omega) (by omega) _) dX6_close_57 tX6_boundOf.1 kX6_31 tX6_boundOf.2.1 tX6_boundOf.2.2.1 rfl (by first | rfl | assumption) tX6_boundOf.2.2.2 ⟨⟨Nat.le_of_ble_eq_true rfl, Nat.le_of_ble_eq_true rfl⟩, Nat.le_of_ble_eq_true rfl, Nat.le_of_ble_eq_true rfl⟩ rfl (Nat.le_of_ble_eq_true rfl) ?_
        rintro r K' M' P' ⟨rfl, rfl, rfl, rfl⟩
        rw [rwc_at]
        refine ev_bipush dX6_close_60 ?_
        refine ev_iand dX6_close_62 ?_
        rw [and_m2 (by omega)]
        refine ev_callv (ci := 6) (c_setBound hs (by omega) (by omega) (by omega) (by omega) _) dX6_close_63 tX6_setBound.1 kX6_35 tX6_setBound.2.1 tX6_setBound.2.2.1 rfl (by first | rfl | assumption) tX6_setBound.2.2.2 ⟨⟨Nat.le_of_ble_eq_true rfl, Nat.le_of_ble_eq_true rfl⟩, Nat.le_of_ble_eq_true rfl, Nat.le_of_ble_eq_true rfl⟩ rfl (Nat.le_of_ble_eq_true rfl) ?_
        rintro r K' M' P' ⟨rfl, rfl, rfl, rfl⟩
        refine ev_iinc dX6_close_66 rfl (by decide) ?_
        refine ev_goto (tgt := 29) dX6_close_69 (by decide) ?_
        refine ev_to hP ⟨rfl, rfl, trivial⟩ ?_ rfl rfl rfl
        rw [rwc_rwc, rwc_at, st2_diag]
        rfl
      refine ev_if_ge (tgt := 51) dX6_close_43 (by decide) (by omega) (fun hq => ?_) (fun hq => ?_)
      · refine ev_to rest ⟨rfl, rfl, trivial⟩ ?_ rfl rfl rfl
        simp only [em1]
        rw [if_neg (by omega)]
      · first | refine ev_aload_n dX6_close_46 rfl ?_ | refine ev_aloadX_n dX6_close_46 rfl ?_
        refine ev_iconst dX6_close_47 ?_
        refine ev_pZ 1 dX6_close_48 sX6_15 rfl (by first | exact Or.inl rfl | exact Or.inr rfl | assumption) (by first | rfl | assumption) rfl ?_
        refine ev_to rest ⟨rfl, rfl, trivial⟩ ?_ rfl rfl rfl
        simp only [em1]
        rw [if_pos hq, upM_rw, rwc_comm (by omega), rwc_rwc, rwc_ne hne, rwc_at]
        congr 2
        funext j
        by_cases hj : j = 1 <;> simp [up1, hj]
    have g2 := evS_bd g1 6 (by omega)
    generalize hh : evS 6 g = h at g2 ⊢
    generalize he1 : em1 6 g = e1
    refine ev_iload_n dX6_close_29 rfl ?_
    refine ev_bipush dX6_close_30 ?_
    refine ev_icmp_ge (tgt := 72) dX6_close_32 (by decide) (by omega) (by omega) (fun hx => ?_) (fun hx => ?_)
    case refine_2 => omega
    refine ev_iconst dX6_close_72 ?_
    refine ev_istore_n dX6_close_73 (by decide) ?_
    refine ev_to (L' := [some (vR c), some (vI (2 * ((0 : Nat) : Int))), none]) (S' := []) (M' := rwc (rwc M c (up1 (M c) 1 (em2 0 h e1))) (c + 1) h) (k' := 0) (n' := 0) ?_ ⟨rfl, rfl, trivial⟩ rfl rfl rfl rfl
    refine up_loop (P := fun i => Ev mX6_close 74 [some (vR c), some (vI (2 * (i : Int))), none] [] KK (rwc (rwc M c (up1 (M c) 1 (em2 i h e1))) (c + 1) h) PP 0 0 _) 3 ?_ ?_
    case refine_2 =>
      intro i hi hP
      have b2 := g2 ((2 * i : Int) * 6 + 2 * i) (by omega) (by omega)
      have b3 := g2 ((2 * i + 1 : Int) * 6 + (2 * i + 1)) (by omega) (by omega)
      refine ev_iload_n dX6_close_74 rfl ?_
      refine ev_bipush dX6_close_75 ?_
      refine ev_icmp_ge (tgt := 111) dX6_close_77 (by decide) (by omega) (by omega) (fun hy => ?_) (fun hy => ?_)
      · omega
      first | refine ev_aload_n dX6_close_80 rfl ?_ | refine ev_aloadX_n dX6_close_80 rfl ?_
      refine ev_iload_n dX6_close_81 rfl ?_
      refine ev_iload_n dX6_close_82 rfl ?_
      refine ev_callv (ci := 6) (c_boundOf hs (by omega) (by omega) (by omega) (by omega) _) dX6_close_83 tX6_boundOf.1 kX6_31 tX6_boundOf.2.1 tX6_boundOf.2.2.1 rfl (by first | rfl | assumption) tX6_boundOf.2.2.2 ⟨⟨Nat.le_of_ble_eq_true rfl, Nat.le_of_ble_eq_true rfl⟩, Nat.le_of_ble_eq_true rfl, Nat.le_of_ble_eq_true rfl⟩ rfl (Nat.le_of_ble_eq_true rfl) ?_
      rintro r K' M' P' ⟨rfl, rfl, rfl, rfl⟩
      rw [rwc_at]
      first | refine ev_aload_n dX6_close_86 rfl ?_ | refine ev_aloadX_n dX6_close_86 rfl ?_
      refine ev_iload_n dX6_close_87 rfl ?_
      refine ev_iconst dX6_close_88 ?_
      refine ev_iadd dX6_close_89 ?_
      refine ev_iload_n dX6_close_90 rfl ?_
      refine ev_iconst dX6_close_91 ?_
      refine ev_iadd dX6_close_92 ?_
      refine ev_callv (ci := 6) (c_boundOf hs (by omega) (by omega) (by omega) (by omega) _) dX6_close_93 tX6_boundOf.1 kX6_31 tX6_boundOf.2.1 tX6_boundOf.2.2.1 rfl (by first | rfl | assumption) tX6_boundOf.2.2.2 ⟨⟨Nat.le_of_ble_eq_true rfl, Nat.le_of_ble_eq_true rfl⟩, Nat.le_of_ble_eq_true rfl, Nat.le_of_ble_eq_true rfl⟩ rfl (Nat.le_of_ble_eq_true rfl) ?_
      rintro r K' M' P' ⟨rfl, rfl, rfl, rfl⟩
      rw [rwc_at]
      refine ev_iadd dX6_close_96 ?_
      have rest : Ev mX6_close 105 [some (vR c), some (vI (2 * (i : Int))), none] [] KK (rwc (rwc M c (up1 (M c) 1 (em2 (i + 1) h e1))) (c + 1) h) PP 0 0 (Rz mX6_close (fun r M' => r = none ∧ M' = clM M c)) := by
        refine ev_iinc dX6_close_105 rfl (by decide) ?_
        refine ev_goto (tgt := 74) dX6_close_108 (by decide) ?_
        refine ev_to hP ⟨rfl, ?_, trivial⟩ rfl rfl rfl rfl
        show some (some (vI (2 * (i : Int) + 2))) = some (some (vI (2 * ((i + 1 : Nat) : Int))))
        congr 3 <;> omega
      refine ev_if_ge (tgt := 105) dX6_close_97 (by decide) (by omega) (fun hq => ?_) (fun hq => ?_)
      · refine ev_to rest ⟨rfl, rfl, trivial⟩ ?_ rfl rfl rfl
        simp only [em2]
        rw [if_neg (by omega)]
      · first | refine ev_aload_n dX6_close_100 rfl ?_ | refine ev_aloadX_n dX6_close_100 rfl ?_
        refine ev_iconst dX6_close_101 ?_
        refine ev_pZ 1 dX6_close_102 sX6_15 rfl (by first | exact Or.inl rfl | exact Or.inr rfl | assumption) (by first | rfl | assumption) rfl ?_
        refine ev_to rest ⟨rfl, rfl, trivial⟩ ?_ rfl rfl rfl
        simp only [em2]
        rw [if_pos hq, upM_rw, rwc_comm (by omega), rwc_rwc, rwc_ne hne, rwc_at]
        congr 2
        funext j
        by_cases hj : j = 1 <;> simp [up1, hj]
    generalize he2 : em2 3 h e1 = e2
    refine ev_iload_n dX6_close_74 rfl ?_
    refine ev_bipush dX6_close_75 ?_
    refine ev_icmp_ge (tgt := 111) dX6_close_77 (by decide) (by omega) (by omega) (fun hy => ?_) (fun hy => ?_)
    case refine_2 => omega
    refine ev_iconst dX6_close_111 ?_
    refine ev_istore_n dX6_close_112 (by decide) ?_
    refine ev_to (L' := [some (vR c), some (vI ((0 : Nat) : Int)), none]) (S' := []) (M' := rwc (rwc M c (up1 (M c) 1 e2)) (c + 1) (hvS 0 h)) (k' := 0) (n' := 0) ?_ ⟨rfl, rfl, trivial⟩ rfl rfl rfl rfl
    refine up_loop (P := fun i => Ev mX6_close 113 [some (vR c), some (vI (i : Int)), none] [] KK (rwc (rwc M c (up1 (M c) 1 e2)) (c + 1) (hvS i h)) PP 0 0 _) 6 ?_ ?_
    case refine_2 =>
      intro i hi hP
      have b0 := hvS_bd g2 i (by omega)
      refine ev_iload_n dX6_close_113 rfl ?_
      refine ev_bipush dX6_close_114 ?_
      refine ev_icmp_ge (tgt := 159) dX6_close_116 (by decide) (by omega) (by omega) (fun hz => ?_) (fun hz => ?_)
      · omega
      refine ev_iconst dX6_close_119 ?_
      refine ev_istore_n dX6_close_120 (by decide) ?_
      refine ev_to (L' := [some (vR c), some (vI (i : Int)), some (vI ((0 : Nat) : Int))]) (S' := []) (M' := rwc (rwc M c (up1 (M c) 1 e2)) (c + 1) (hvR i 0 (hvS i h))) (k' := 0) (n' := 0) ?_ ⟨rfl, rfl, rfl, trivial⟩ rfl rfl rfl rfl
      refine up_loop (P := fun k => Ev mX6_close 121 [some (vR c), some (vI (i : Int)), some (vI (k : Int))] [] KK (rwc (rwc M c (up1 (M c) 1 e2)) (c + 1) (hvR i k (hvS i h))) PP 0 0 _) i ?_ ?_
      · refine ev_iload_n dX6_close_121 rfl ?_
        refine ev_iload_n dX6_close_122 rfl ?_
        refine ev_icmp_ge (tgt := 153) dX6_close_123 (by decide) (by omega) (by omega) (fun hw => ?_) (fun hw => ?_)
        · refine ev_iinc dX6_close_153 rfl (by decide) ?_
          refine ev_goto (tgt := 113) dX6_close_156 (by decide) ?_
          exact ev_to hP ⟨rfl, rfl, trivial⟩ rfl rfl rfl rfl
        · omega
      · intro k hk hQ
        have b1 := hvR_bd b0 (i := (i : Int)) (by omega) (by omega) k (by omega)
        have b2 := b1 ((i : Int) * 6 + i) (by omega) (by omega)
        have b3 := b1 ((k : Int) * 6 + k) (by omega) (by omega)
        have b4 := b1 ((i : Int) * 6 + k) (by omega) (by omega)
        refine ev_iload_n dX6_close_121 rfl ?_
        refine ev_iload_n dX6_close_122 rfl ?_
        refine ev_icmp_ge (tgt := 153) dX6_close_123 (by decide) (by omega) (by omega) (fun hw => ?_) (fun hw => ?_)
        · omega
        first | refine ev_aload_n dX6_close_126 rfl ?_ | refine ev_aloadX_n dX6_close_126 rfl ?_
        refine ev_iload_n dX6_close_127 rfl ?_
        refine ev_iload_n dX6_close_128 rfl ?_
        first | refine ev_aload_n dX6_close_129 rfl ?_ | refine ev_aloadX_n dX6_close_129 rfl ?_
        refine ev_iload_n dX6_close_130 rfl ?_
        refine ev_iload_n dX6_close_131 rfl ?_
        refine ev_callv (ci := 6) (c_boundOf hs (by omega) (by omega) (by omega) (by omega) _) dX6_close_132 tX6_boundOf.1 kX6_31 tX6_boundOf.2.1 tX6_boundOf.2.2.1 rfl (by first | rfl | assumption) tX6_boundOf.2.2.2 ⟨⟨Nat.le_of_ble_eq_true rfl, Nat.le_of_ble_eq_true rfl⟩, Nat.le_of_ble_eq_true rfl, Nat.le_of_ble_eq_true rfl⟩ rfl (Nat.le_of_ble_eq_true rfl) ?_
        rintro r K' M' P' ⟨rfl, rfl, rfl, rfl⟩
        rw [rwc_at]
        first | refine ev_aload_n dX6_close_135 rfl ?_ | refine ev_aloadX_n dX6_close_135 rfl ?_
        refine ev_iload_n dX6_close_136 rfl ?_
        refine ev_iload_n dX6_close_137 rfl ?_
        refine ev_callv (ci := 6) (c_boundOf hs (by omega) (by omega) (by omega) (by omega) _) dX6_close_138 tX6_boundOf.1 kX6_31 tX6_boundOf.2.1 tX6_boundOf.2.2.1 rfl (by first | rfl | assumption) tX6_boundOf.2.2.2 ⟨⟨Nat.le_of_ble_eq_true rfl, Nat.le_of_ble_eq_true rfl⟩, Nat.le_of_ble_eq_true rfl, Nat.le_of_ble_eq_true rfl⟩ rfl (Nat.le_of_ble_eq_true rfl) ?_
        rintro r K' M' P' ⟨rfl, rfl, rfl, rfl⟩
        rw [rwc_at]
        have b5 : inR ((hvR i k (hvS i h) ((i : Int) * 6 + i) + hvR i k (hvS i h) ((k : Int) * 6 + k)).tdiv 2) := tdiv_rng (by omega) (by omega) (by omega)
        refine ev_iadd dX6_close_141 ?_
        refine ev_iconst dX6_close_142 ?_
        refine ev_idiv dX6_close_143 (by omega) (by omega) (by omega) (by omega) ?_
        refine ev_callv (ci := 6) (c_limit hs (by omega) (by omega) (by omega) (by omega) b5 _ (by rw [rwc_at]; omega)) dX6_close_144 tX6_limit.1 kX6_43 tX6_limit.2.1 tX6_limit.2.2.1 rfl (by first | rfl | assumption) tX6_limit.2.2.2 ⟨⟨Nat.le_of_ble_eq_true rfl, Nat.le_of_ble_eq_true rfl⟩, Nat.le_of_ble_eq_true rfl, Nat.le_of_ble_eq_true rfl⟩ rfl (Nat.le_of_ble_eq_true rfl) ?_
        rintro r K' M' P' ⟨rfl, rfl, rfl, rfl⟩
        refine ev_iinc dX6_close_147 rfl (by decide) ?_
        refine ev_goto (tgt := 121) dX6_close_150 (by decide) ?_
        refine ev_to hQ ⟨rfl, rfl, rfl, trivial⟩ ?_ rfl rfl rfl
        rw [rwc_rwc, rwc_at]
        rfl
    refine ev_iload_n dX6_close_113 rfl ?_
    refine ev_bipush dX6_close_114 ?_
    refine ev_icmp_ge (tgt := 159) dX6_close_116 (by decide) (by omega) (by omega) (fun hz => ?_) (fun hz => ?_)
    case refine_2 => omega
    exact ev_return dX6_close_159 rfl (rz ⟨rfl, by rw [clM, if_pos h0]; subst he2; subst he1; subst hh; subst hg; rfl⟩)
  · exact ev_return dX6_close_7 rfl (rz ⟨rfl, by rw [clM, if_neg h0]⟩)
/-- the fill: 16, and 0 for a number and its other sign -/
def fill0 : Int → Int := fun j => if 0 ≤ j ∧ j < 36 then (if j % 6 = nx (j / 6) then 0 else 16) else 0
