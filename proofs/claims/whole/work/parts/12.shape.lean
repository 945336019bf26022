/-! ===== Math, Arrays.fill, and Shape: single bounds, chains ===== -/
theorem c_min {x y : Int} (hx : inR x) (hy : inR y) (M : Mm) : Cm mJ9_min_7cf53 [vI x, vI y] M (fun r M' => r = some (vI (min x y)) ∧ M' = M) := by
  refine cm_of (by decide +kernel) (fun _ => trivial) (Nat.le_of_ble_eq_true rfl) ?_
  refine ev_iload_n dJ9_min_7cf53_0 rfl ?_
  refine ev_iload_n dJ9_min_7cf53_1 rfl ?_
  refine ev_icmp_gt (tgt := 9) dJ9_min_7cf53_2 (by decide) (by omega) (by omega) (fun h => ?_) (fun h => ?_)
  · refine ev_iload_n dJ9_min_7cf53_9 rfl ?_
    exact ev_ireturn dJ9_min_7cf53_10 ⟨_, rfl, rfl⟩ (rz ⟨by rw [Int.min_def, if_neg (by omega)], rfl⟩)
  · refine ev_iload_n dJ9_min_7cf53_5 rfl ?_
    refine ev_goto (tgt := 10) dJ9_min_7cf53_6 (by decide) ?_
    exact ev_ireturn dJ9_min_7cf53_10 ⟨_, rfl, rfl⟩ (rz ⟨by rw [Int.min_def, if_pos (by omega)], rfl⟩)
theorem c_max {x y : Int} (hx : inR x) (hy : inR y) (M : Mm) : Cm mJ9_max_7cf53 [vI x, vI y] M (fun r M' => r = some (vI (max x y)) ∧ M' = M) := by
  refine cm_of (by decide +kernel) (fun _ => trivial) (Nat.le_of_ble_eq_true rfl) ?_
  refine ev_iload_n dJ9_max_7cf53_0 rfl ?_
  refine ev_iload_n dJ9_max_7cf53_1 rfl ?_
  refine ev_icmp_lt (tgt := 9) dJ9_max_7cf53_2 (by decide) (by omega) (by omega) (fun h => ?_) (fun h => ?_)
  · refine ev_iload_n dJ9_max_7cf53_9 rfl ?_
    exact ev_ireturn dJ9_max_7cf53_10 ⟨_, rfl, rfl⟩ (rz ⟨by congr 2; omega, rfl⟩)
  · refine ev_iload_n dJ9_max_7cf53_5 rfl ?_
    refine ev_goto (tgt := 10) dJ9_max_7cf53_6 (by decide) ?_
    exact ev_ireturn dJ9_max_7cf53_10 ⟨_, rfl, rfl⟩ (rz ⟨by congr 2; omega, rfl⟩)
/-- the first i places hold z -/
def fillS (z : Int) (f : Int → Int) (i : Nat) : Int → Int := fun j => if 0 ≤ j ∧ j < i then z else f j
theorem c_afill {c N : Nat} {z : Int} (hK : KK[c]? = some (.inr (.inl N))) (hN : N ≤ 2147483647) (M : Mm) : Cm mJ7_fill_53178 [vR c, vI z] M (fun r M' => r = none ∧ M' = rwc M c (fillS z (M c) N)) := by
  refine cm_of (by decide +kernel) (fun _ => trivial) (Nat.le_of_ble_eq_true rfl) ?_
  refine ev_iconst dJ7_fill_53178_0 ?_
  refine ev_istore_n dJ7_fill_53178_1 (by decide) ?_
  first | refine ev_aload_n dJ7_fill_53178_2 rfl ?_ | refine ev_aloadX_n dJ7_fill_53178_2 rfl ?_
  refine ev_alen dJ7_fill_53178_3 (by first | rfl | assumption) ?_
  refine ev_istore_n dJ7_fill_53178_4 (by decide) ?_
  refine ev_to (L' := [some (vR c), some (vI z), some (vI ((0 : Nat) : Int)), some (vI N)]) (S' := []) (M' := rwc M c (fillS z (M c) 0)) (k' := 0) (n' := 0) ?_ ⟨rfl, rfl, rfl, rfl, trivial⟩ ?_ rfl rfl rfl
  · refine up_loop (P := fun i => Ev mJ7_fill_53178 5 [some (vR c), some (vI z), some (vI (i : Int)), some (vI N)] [] KK (rwc M c (fillS z (M c) i)) PP 0 0 _) N ?_ ?_
    · refine ev_iload_n dJ7_fill_53178_5 rfl ?_
      refine ev_iload_n dJ7_fill_53178_6 rfl ?_
      refine ev_icmp_ge (tgt := 20) dJ7_fill_53178_7 (by decide) (by omega) (by omega) (fun h => ?_) (fun h => ?_)
      · exact ev_return dJ7_fill_53178_20 rfl (rz ⟨rfl, rfl⟩)
      · omega
    · intro i hi hP
      refine ev_iload_n dJ7_fill_53178_5 rfl ?_
      refine ev_iload_n dJ7_fill_53178_6 rfl ?_
      refine ev_icmp_ge (tgt := 20) dJ7_fill_53178_7 (by decide) (by omega) (by omega) (fun h => ?_) (fun h => ?_)
      · omega
      · first | refine ev_aload_n dJ7_fill_53178_10 rfl ?_ | refine ev_aloadX_n dJ7_fill_53178_10 rfl ?_
        refine ev_iload_n dJ7_fill_53178_11 rfl ?_
        refine ev_iload_n dJ7_fill_53178_12 rfl ?_
        refine ev_iastore dJ7_fill_53178_13 hK (by omega) (by omega) hN ?_
        refine ev_iinc dJ7_fill_53178_14 rfl (by decide) ?_
        refine ev_goto (tgt := 5) dJ7_fill_53178_17 (by decide) ?_
        refine ev_to hP ⟨rfl, rfl, rfl, rfl, trivial⟩ ?_ rfl rfl rfl
        rw [upM_rw, rwc_rwc, rwc_at]
        congr 1
        funext j
        simp only [fillS, up1]
        split <;> split <;> (try split) <;> first | rfl | omega
  · have : fillS z (M c) 0 = M c := by
      funext j
      simp only [fillS]
      rw [if_neg (by omega)]
    rw [this, rwc_self]
theorem c_boundOf {c : Nat} (hs : isSh c) {a b : Int} (h1 : 0 ≤ a) (h2 : a < 6) (h3 : 0 ≤ b) (h4 : b < 6) (M : Mm) : Cm mX6_boundOf [vR c, vI a, vI b] M (fun r M' => r = some (vI (M (c + 1) (a * 6 + b))) ∧ M' = M) := by
  obtain ⟨hs1, hs2, hs3⟩ := hs
  refine cm_of (by decide +kernel) (fun _ => trivial) (Nat.le_of_ble_eq_true rfl) ?_
  first | refine ev_aload_n dX6_boundOf_0 rfl ?_ | refine ev_aloadX_n dX6_boundOf_0 rfl ?_
  refine ev_getR dX6_boundOf_1 fX6_9 rfl (by first | rfl | assumption) (by first | rfl | assumption) ?_
  refine ev_iload_n dX6_boundOf_4 rfl ?_
  refine ev_bipush dX6_boundOf_5 ?_
  refine ev_imul dX6_boundOf_7 ?_
  refine ev_iload_n dX6_boundOf_8 rfl ?_
  refine ev_iadd dX6_boundOf_9 ?_
  refine ev_iaload dX6_boundOf_10 (by first | rfl | assumption) (by omega) (by omega) (by decide) ?_
  exact ev_ireturn dX6_boundOf_11 ⟨_, rfl, rfl⟩ (rz ⟨rfl, rfl⟩)
/-- both places of a pair -/
def st2 (f : Int → Int) (a b z : Int) : Int → Int := up1 (up1 f (a * 6 + b) z) (b * 6 + a) z
theorem c_setBound {c : Nat} (hs : isSh c) {a b z : Int} (h1 : 0 ≤ a) (h2 : a < 6) (h3 : 0 ≤ b) (h4 : b < 6) (M : Mm) : Cm mX6_setBound [vR c, vI a, vI b, vI z] M (fun r M' => r = none ∧ M' = rwc M (c + 1) (st2 (M (c + 1)) a b z)) := by
  obtain ⟨hs1, hs2, hs3⟩ := hs
  refine cm_of (by decide +kernel) (fun _ => trivial) (Nat.le_of_ble_eq_true rfl) ?_
  first | refine ev_aload_n dX6_setBound_0 rfl ?_ | refine ev_aloadX_n dX6_setBound_0 rfl ?_
  refine ev_getR dX6_setBound_1 fX6_9 rfl (by first | rfl | assumption) (by first | rfl | assumption) ?_
  refine ev_iload_n dX6_setBound_4 rfl ?_
  refine ev_bipush dX6_setBound_5 ?_
  refine ev_imul dX6_setBound_7 ?_
  refine ev_iload_n dX6_setBound_8 rfl ?_
  refine ev_iadd dX6_setBound_9 ?_
  refine ev_iload_n dX6_setBound_10 rfl ?_
  refine ev_iastore dX6_setBound_11 (by first | rfl | assumption) (by omega) (by omega) (by decide) ?_
  first | refine ev_aload_n dX6_setBound_12 rfl ?_ | refine ev_aloadX_n dX6_setBound_12 rfl ?_
  refine ev_getR dX6_setBound_13 fX6_9 rfl (by first | rfl | assumption) (by first | rfl | assumption) ?_
  refine ev_iload_n dX6_setBound_16 rfl ?_
  refine ev_bipush dX6_setBound_17 ?_
  refine ev_imul dX6_setBound_19 ?_
  refine ev_iload_n dX6_setBound_20 rfl ?_
  refine ev_iadd dX6_setBound_21 ?_
  refine ev_iload_n dX6_setBound_22 rfl ?_
  refine ev_iastore dX6_setBound_23 (by first | rfl | assumption) (by omega) (by omega) (by decide) ?_
  exact ev_return dX6_setBound_24 rfl (rz ⟨rfl, by rw [upM_rw, upM_rw, rwc_rwc, rwc_at]; rfl⟩)
def limF (f : Int → Int) (a b z : Int) : Int → Int := if z < f (a * 6 + b) then st2 f a b z else f
theorem c_limit {c : Nat} (hs : isSh c) {a b z : Int} (h1 : 0 ≤ a) (h2 : a < 6) (h3 : 0 ≤ b) (h4 : b < 6) (hz : inR z) (M : Mm) (hm : inR (M (c + 1) (a * 6 + b))) : Cm mX6_limit [vR c, vI a, vI b, vI z] M (fun r M' => r = none ∧ M' = rwc M (c + 1) (limF (M (c + 1)) a b z)) := by
  obtain ⟨hs1, hs2, hs3⟩ := id hs
  refine cm_of (by decide +kernel) (fun _ => trivial) (Nat.le_of_ble_eq_true rfl) ?_
  refine ev_iload_n dX6_limit_0 rfl ?_
  first | refine ev_aload_n dX6_limit_1 rfl ?_ | refine ev_aloadX_n dX6_limit_1 rfl ?_
  refine ev_iload_n dX6_limit_2 rfl ?_
  refine ev_iload_n dX6_limit_3 rfl ?_
  refine ev_callv (ci := 6) (c_boundOf hs h1 h2 h3 h4 _) dX6_limit_4 tX6_boundOf.1 kX6_31 tX6_boundOf.2.1 tX6_boundOf.2.2.1 rfl (by first | rfl | assumption) tX6_boundOf.2.2.2 ⟨⟨Nat.le_of_ble_eq_true rfl, Nat.le_of_ble_eq_true rfl⟩, Nat.le_of_ble_eq_true rfl, Nat.le_of_ble_eq_true rfl⟩ rfl (Nat.le_of_ble_eq_true rfl) ?_
  rintro r K' M' P' ⟨rfl, rfl, rfl, rfl⟩
  refine ev_icmp_ge (tgt := 17) dX6_limit_7 (by decide) (by omega) (by omega) (fun h => ?_) (fun h => ?_)
  · exact ev_return dX6_limit_17 rfl (rz ⟨rfl, by rw [limF, if_neg (by omega), rwc_self]⟩)
  · first | refine ev_aload_n dX6_limit_10 rfl ?_ | refine ev_aloadX_n dX6_limit_10 rfl ?_
    refine ev_iload_n dX6_limit_11 rfl ?_
    refine ev_iload_n dX6_limit_12 rfl ?_
    refine ev_iload_n dX6_limit_13 rfl ?_
    refine ev_callv (ci := 6) (c_setBound hs h1 h2 h3 h4 _) dX6_limit_14 tX6_setBound.1 kX6_35 tX6_setBound.2.1 tX6_setBound.2.2.1 rfl (by first | rfl | assumption) tX6_setBound.2.2.2 ⟨⟨Nat.le_of_ble_eq_true rfl, Nat.le_of_ble_eq_true rfl⟩, Nat.le_of_ble_eq_true rfl, Nat.le_of_ble_eq_true rfl⟩ rfl (Nat.le_of_ble_eq_true rfl) ?_
    rintro r K' M' P' ⟨rfl, rfl, rfl, rfl⟩
    exact ev_return dX6_limit_17 rfl (rz ⟨rfl, by rw [limF, if_pos h]⟩)
/-- row a of the chain by b, its first k places -/
def rwS (b a : Int) (k : Nat) (f : Int → Int) : Int → Int := fun j => if a * 6 ≤ j ∧ j < a * 6 + k then min (f j) (f (a * 6 + b) + f (nx b * 6 + (j - a * 6))) else f j
def chS (b : Int) : Nat → (Int → Int) → (Int → Int)
  | 0, f => f
  | i + 1, f => rwS b i 6 (chS b i f)
/-- bounds of a row of bounds -/
def bdd (B : Int) (f : Int → Int) : Prop := ∀ j, 0 ≤ j → j < 36 → -B ≤ f j ∧ f j ≤ B
theorem chS_bd {b B : Int} {f : Int → Int} (hb : 0 ≤ b) (hb2 : b < 6) (hB : bdd B f) (hB0 : 0 ≤ B) : ∀ i : Nat, i ≤ 6 → (∀ j, 0 ≤ j → j < 36 → -(3 * B) ≤ chS b i f j ∧ chS b i f j ≤ B) ∧ (∀ j, (i : Int) * 6 ≤ j → chS b i f j = f j) ∧ (∀ o, 0 ≤ o → o < 6 → -(2 * B) ≤ chS b i f (nx b * 6 + o)) := by
  intro i
  obtain ⟨n1, n2⟩ := nx_rng hb hb2
  induction i with
  | zero =>
    intro _
    refine ⟨fun j h1 h2 => ?_, fun j _ => rfl, fun o h1 h2 => ?_⟩
    · have := hB j h1 h2
      show -(3 * B) ≤ f j ∧ f j ≤ B
      omega
    · have := hB (nx b * 6 + o) (by omega) (by omega)
      show -(2 * B) ≤ f _
      omega
  | succ i ih =>
    intro hi
    obtain ⟨h1, h2, h3⟩ := ih (by omega)
    refine ⟨fun j q1 q2 => ?_, fun j q => ?_, fun o q1 q2 => ?_⟩
    · show -(3 * B) ≤ rwS b i 6 (chS b i f) j ∧ rwS b i 6 (chS b i f) j ≤ B
      unfold rwS
      split
      · rename_i hj
        have e1 := h1 j q1 q2
        have e2 := h2 ((i : Int) * 6 + b) (by omega)
        have e3 := hB ((i : Int) * 6 + b) (by omega) (by omega)
        have e4 := h3 (j - (i : Int) * 6) (by omega) (by omega)
        omega
      · exact h1 j q1 q2
    · show rwS b i 6 (chS b i f) j = f j
      unfold rwS
      rw [if_neg (by omega)]
      exact h2 j (by omega)
    · show -(2 * B) ≤ rwS b i 6 (chS b i f) (nx b * 6 + o)
      unfold rwS
      split
      · rename_i hj
        have hni : nx b = i := by omega
        have e1 := h2 (nx b * 6 + o) (by omega)
        have e2 := h2 ((i : Int) * 6 + b) (by omega)
        have e3 := hB (nx b * 6 + o) (by omega) (by omega)
        have e4 := hB ((i : Int) * 6 + b) (by omega) (by omega)
        have e5 := h2 (nx b * 6 + (nx b * 6 + o - (i : Int) * 6)) (by omega)
        have e6 : nx b * 6 + (nx b * 6 + o - (i : Int) * 6) = nx b * 6 + o := by omega
        rw [e6] at e5 ⊢
        omega
      · exact h3 o q1 q2
theorem rwS_0 (b a : Int) (f : Int → Int) : rwS b a 0 f = f := by
  funext j
  unfold rwS
  rw [if_neg (by omega)]
theorem c_chainBy {c : Nat} (hs : isSh c) {b B : Int} (h1 : 0 ≤ b) (h2 : b < 6) (M : Mm) (hB : bdd B (M (c + 1))) (hB0 : 0 ≤ B) (hB1 : B ≤ 100000000) : Cm mX6_chainBy [vR c, vI b] M (fun r M' => r = none ∧ M' = rwc M (c + 1) (chS b 6 (M (c + 1)))) := by
  obtain ⟨hs1, hs2, hs3⟩ := id hs
  obtain ⟨n1, n2⟩ := nx_rng h1 h2
  refine cm_of (by decide +kernel) (fun _ => trivial) (Nat.le_of_ble_eq_true rfl) ?_
  refine ev_iconst dX6_chainBy_0 ?_
  refine ev_istore_n dX6_chainBy_1 (by decide) ?_
  refine ev_to (L' := [some (vR c), some (vI b), some (vI ((0 : Nat) : Int)), none, none, none]) (S' := []) (M' := rwc M (c + 1) (chS b 0 (M (c + 1)))) (k' := 0) (n' := 0) ?_ ⟨rfl, rfl, rfl, trivial⟩ (by show M = rwc M (c + 1) (M (c + 1)); rw [rwc_self]) rfl rfl rfl
  refine up_loop (P := fun i => Ev mX6_chainBy 2 [some (vR c), some (vI b), some (vI (i : Int)), none, none, none] [] KK (rwc M (c + 1) (chS b i (M (c + 1)))) PP 0 0 _) 6 ?_ ?_
  · refine ev_iload_n dX6_chainBy_2 rfl ?_
    refine ev_bipush dX6_chainBy_3 ?_
    refine ev_icmp_ge (tgt := 76) dX6_chainBy_5 (by decide) (by omega) (by omega) (fun h => ?_) (fun h => ?_)
    · exact ev_return dX6_chainBy_76 rfl (rz ⟨rfl, rfl⟩)
    · omega
  intro i hi hP
  obtain ⟨g1, g2, g3⟩ := chS_bd h1 h2 hB hB0 i (by omega)
  generalize hg : chS b i (M (c + 1)) = g at g1 g2 g3 ⊢
  refine ev_iload_n dX6_chainBy_2 rfl ?_
  refine ev_bipush dX6_chainBy_3 ?_
  refine ev_icmp_ge (tgt := 76) dX6_chainBy_5 (by decide) (by omega) (by omega) (fun h => ?_) (fun h => ?_)
  · omega
  first | refine ev_aload_n dX6_chainBy_8 rfl ?_ | refine ev_aloadX_n dX6_chainBy_8 rfl ?_
  refine ev_iload_n dX6_chainBy_9 rfl ?_
  refine ev_iload_n dX6_chainBy_10 rfl ?_
  refine ev_callv (ci := 6) (c_boundOf hs (by omega) (by omega) h1 h2 _) dX6_chainBy_11 tX6_boundOf.1 kX6_31 tX6_boundOf.2.1 tX6_boundOf.2.2.1 rfl (by first | rfl | assumption) tX6_boundOf.2.2.2 ⟨⟨Nat.le_of_ble_eq_true rfl, Nat.le_of_ble_eq_true rfl⟩, Nat.le_of_ble_eq_true rfl, Nat.le_of_ble_eq_true rfl⟩ rfl (Nat.le_of_ble_eq_true rfl) ?_
  rintro r K' M' P' ⟨rfl, rfl, rfl, rfl⟩
  rw [rwc_at]
  refine ev_istore_n dX6_chainBy_14 (by decide) ?_
  refine ev_iconst dX6_chainBy_15 ?_
  refine ev_istore dX6_chainBy_16 (by decide) ?_
  refine ev_to (L' := [some (vR c), some (vI b), some (vI (i : Int)), some (vI (g ((i : Int) * 6 + b))), some (vI ((0 : Nat) : Int)), none]) (S' := []) (M' := rwc M (c + 1) (rwS b i 0 g)) (k' := 0) (n' := 0) ?_ ⟨rfl, rfl, rfl, rfl, rfl, trivial⟩ (by rw [rwS_0]) rfl rfl rfl
  refine up_loop (P := fun o => Ev mX6_chainBy 18 [some (vR c), some (vI b), some (vI (i : Int)), some (vI (g ((i : Int) * 6 + b))), some (vI (o : Int)), none] [] KK (rwc M (c + 1) (rwS b i o g)) PP 0 0 _) 6 ?_ ?_
  · refine ev_iload dX6_chainBy_18 rfl ?_
    refine ev_bipush dX6_chainBy_20 ?_
    refine ev_icmp_ge (tgt := 70) dX6_chainBy_22 (by decide) (by omega) (by omega) (fun h => ?_) (fun h => ?_)
    · refine ev_iinc dX6_chainBy_70 rfl (by decide) ?_
      refine ev_goto (tgt := 2) dX6_chainBy_73 (by decide) ?_
      refine ev_to hP ⟨rfl, rfl, rfl, trivial⟩ ?_ rfl rfl rfl
      show _ = rwc M (c + 1) (rwS b i 6 (chS b i (M (c + 1))))
      rw [hg]
    · omega
  intro o ho hQ
  refine ev_iload dX6_chainBy_18 rfl ?_
  refine ev_bipush dX6_chainBy_20 ?_
  refine ev_icmp_ge (tgt := 70) dX6_chainBy_22 (by decide) (by omega) (by omega) (fun h => ?_) (fun h => ?_)
  · omega
  refine ev_iload_n dX6_chainBy_25 rfl ?_
  first | refine ev_aload_n dX6_chainBy_26 rfl ?_ | refine ev_aloadX_n dX6_chainBy_26 rfl ?_
  refine ev_iload_n dX6_chainBy_27 rfl ?_
  refine ev_iconst dX6_chainBy_28 ?_
  refine ev_ixor dX6_chainBy_29 ?_
  refine ev_iload dX6_chainBy_30 rfl ?_
  rw [xor1 h1 h2]
  refine ev_callv (ci := 6) (c_boundOf hs n1 n2 (by omega) (by omega) _) dX6_chainBy_32 tX6_boundOf.1 kX6_31 tX6_boundOf.2.1 tX6_boundOf.2.2.1 rfl (by first | rfl | assumption) tX6_boundOf.2.2.2 ⟨⟨Nat.le_of_ble_eq_true rfl, Nat.le_of_ble_eq_true rfl⟩, Nat.le_of_ble_eq_true rfl, Nat.le_of_ble_eq_true rfl⟩ rfl (Nat.le_of_ble_eq_true rfl) ?_
  rintro r K' M' P' ⟨rfl, rfl, rfl, rfl⟩
  rw [rwc_at]
  have ek : rwS b i o g (nx b * 6 + (o : Int)) = g (nx b * 6 + (o : Int)) := by
    unfold rwS
    rw [if_neg (by omega)]
  have ek2 : rwS b i o g ((i : Int) * 6 + (o : Int)) = g ((i : Int) * 6 + (o : Int)) := by
    unfold rwS
    rw [if_neg (by omega)]
  have b1 := g1 ((i : Int) * 6 + b) (by omega) (by omega)
  have b2 := g1 (nx b * 6 + (o : Int)) (by omega) (by omega)
  have b3 := g1 ((i : Int) * 6 + (o : Int)) (by omega) (by omega)
  rw [ek]
  refine ev_iadd dX6_chainBy_35 ?_
  refine ev_istore dX6_chainBy_36 (by decide) ?_
  refine ev_iload dX6_chainBy_38 rfl ?_
  first | refine ev_aload_n dX6_chainBy_40 rfl ?_ | refine ev_aloadX_n dX6_chainBy_40 rfl ?_
  refine ev_iload_n dX6_chainBy_41 rfl ?_
  refine ev_iload dX6_chainBy_42 rfl ?_
  refine ev_callv (ci := 6) (c_boundOf hs (by omega) (by omega) (by omega) (by omega) _) dX6_chainBy_44 tX6_boundOf.1 kX6_31 tX6_boundOf.2.1 tX6_boundOf.2.2.1 rfl (by first | rfl | assumption) tX6_boundOf.2.2.2 ⟨⟨Nat.le_of_ble_eq_true rfl, Nat.le_of_ble_eq_true rfl⟩, Nat.le_of_ble_eq_true rfl, Nat.le_of_ble_eq_true rfl⟩ rfl (Nat.le_of_ble_eq_true rfl) ?_
  rintro r K' M' P' ⟨rfl, rfl, rfl, rfl⟩
  rw [rwc_at, ek2]
  refine ev_icmp_ge (tgt := 64) dX6_chainBy_47 (by decide) (by omega) (by omega) (fun hc => ?_) (fun hc => ?_)
  · refine ev_iinc dX6_chainBy_64 rfl (by decide) ?_
    refine ev_goto (tgt := 18) dX6_chainBy_67 (by decide) ?_
    refine ev_to hQ ⟨rfl, rfl, rfl, rfl, rfl, trivial⟩ ?_ rfl rfl rfl
    congr 1
    funext j
    unfold rwS
    by_cases hj : j = (i : Int) * 6 + (o : Int)
    · subst hj
      rw [if_neg (by omega), if_pos (by omega)]
      have e : (i : Int) * 6 + (o : Int) - (i : Int) * 6 = o := by omega
      rw [e]
      omega
    · split <;> split <;> first | rfl | omega
  · first | refine ev_aload_n dX6_chainBy_50 rfl ?_ | refine ev_aloadX_n dX6_chainBy_50 rfl ?_
    refine ev_getR dX6_chainBy_51 fX6_9 rfl (by first | rfl | assumption) (by first | rfl | assumption) ?_
    refine ev_iload_n dX6_chainBy_54 rfl ?_
    refine ev_bipush dX6_chainBy_55 ?_
    refine ev_imul dX6_chainBy_57 ?_
    refine ev_iload dX6_chainBy_58 rfl ?_
    refine ev_iadd dX6_chainBy_60 ?_
    refine ev_iload dX6_chainBy_61 rfl ?_
    refine ev_iastore dX6_chainBy_63 (by first | rfl | assumption) (by omega) (by omega) (by decide) ?_
    refine ev_iinc dX6_chainBy_64 rfl (by decide) ?_
    refine ev_goto (tgt := 18) dX6_chainBy_67 (by decide) ?_
    refine ev_to hQ ⟨rfl, rfl, rfl, rfl, rfl, trivial⟩ ?_ rfl rfl rfl
    rw [upM_rw, rwc_rwc, rwc_at]
    congr 1
    funext j
    unfold rwS up1
    by_cases hj : j = (i : Int) * 6 + (o : Int)
    · subst hj
      rw [if_pos rfl, if_pos (by omega)]
      have e : (i : Int) * 6 + (o : Int) - (i : Int) * 6 = o := by omega
      rw [e]
      omega
    · rw [if_neg hj]
      dsimp only
      split <;> split <;> first | rfl | omega
