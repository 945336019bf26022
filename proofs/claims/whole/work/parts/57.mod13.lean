/-! ===== the reference: take, by ===== -/
def gW (f : Int → Int) (p i : Int) : Int → Int := fun j => if 4 * p ≤ j ∧ j < 4 * i then f (j + 4) - (if j % 4 = 1 then bmp (mK f) (mA f) p (j / 4 + 1) else 0) else f j
def hD (g : Int → Int) (i : Int) (c : Nat) : Int → Int := fun j => if 4 * i ≤ j ∧ j < 4 * i + c then g (j + 4) else g j
theorem gW_n (f : Int → Int) (p : Int) : gW f p p = f := by
  funext j
  unfold gW
  rw [if_neg (by omega)]
theorem hD_0 (g : Int → Int) (i : Int) : hD g i 0 = g := by
  funext j
  unfold hD
  rw [if_neg (by omega)]
theorem hD_s (g : Int → Int) (i : Int) (c : Nat) (hc : c < 4) : up1 (hD g i c) (4 * i + c) (hD g i c (4 * i + 4 + c)) = hD g i (c + 1) := by
  funext j
  by_cases hj : j = 4 * i + c
  · subst hj
    rw [up1_s]
    unfold hD
    rw [if_neg (by omega), if_pos (by omega)]
    congr 1
    omega
  · rw [up1_n hj]
    unfold hD
    split <;> split <;> first | rfl | omega
theorem gW_s {f : Int → Int} {p i w : Int} (h2 : p ≤ i) (hw : w = bmp (mK f) (mA f) p (i + 1)) : up1 (hD (gW f p i) i 4) (4 * i + 1) (f (4 * i + 5) - w) = gW f p (i + 1) := by
  funext j
  by_cases hj : j = 4 * i + 1
  · subst hj
    rw [up1_s]
    unfold gW
    have e1 : (4 * i + 1) % 4 = 1 := by omega
    have e2 : (4 * i + 1) / 4 + 1 = i + 1 := by omega
    have e3 : 4 * i + 1 + 4 = 4 * i + 5 := by omega
    rw [if_pos (by omega), if_pos e1, e2, e3, hw]
  · rw [up1_n hj]
    unfold hD
    by_cases h3 : 4 * i ≤ j ∧ j < 4 * i + (4 : Nat)
    · rw [if_pos h3]
      unfold gW
      rw [if_neg (by omega), if_pos (by omega), if_neg (by omega), Int.sub_zero]
    · rw [if_neg h3]
      unfold gW
      split <;> split <;> first | rfl | omega
theorem hD_v {f : Int → Int} {p i : Int} : hD (gW f p i) i 4 (4 * i) = f (4 * i + 4) ∧ hD (gW f p i) i 4 (4 * i + 1) = f (4 * i + 5) := by
  constructor
  · unfold hD gW
    rw [if_pos (by omega), if_neg (by omega)]
  · unfold hD gW
    rw [if_pos (by omega), if_neg (by omega)]
    congr 1
    omega
def mtakM (M : Mm) (p m : Nat) : Mm := rwc (upM M 54 8 (m : Int)) 57 (gW (M 57) p m)
theorem ktake_in {M : Mm} {G : Int → Int} {x i : Int} (h1 : 0 ≤ i) (h2 : i < 5) {Φ : Ps} (hE : Ev mX9_take 123 [some (vR 54), some (vI x), none, some (vI i), none] [] KK (rwc M 57 (hD G i 4)) PP 0 0 Φ) : Ev mX9_take 87 [some (vR 54), some (vI x), none, some (vI i), some (vI 0)] [] KK (rwc M 57 G) PP 0 0 Φ := by
  refine ev_to (L' := [some (vR 54), some (vI x), none, some (vI i), some (vI ((0 : Nat) : Int))]) (S' := []) (M' := rwc M 57 (hD G i (0 : Nat))) (k' := 0) (n' := 0) ?_ (by repeat (first | exact trivial | refine ⟨rfl, ?_⟩)) (by rw [hD_0]) rfl rfl rfl
  refine up_loop (P := fun c => Ev mX9_take 87 [some (vR 54), some (vI x), none, some (vI i), some (vI (c : Int))] [] KK (rwc M 57 (hD G i c)) PP 0 0 _) 4 ?_ ?_
  · refine ev_iload dX9_take_87 rfl ?_
    refine ev_iconst dX9_take_89 ?_
    refine ev_icmp_ge (tgt := 123) dX9_take_90 (by decide) (by omega) (by omega) (fun hb90 => ?_) (fun hb90 => ?_)
    · exact ev_to hE (by repeat (first | exact trivial | refine ⟨rfl, ?_⟩)) rfl rfl rfl rfl
    · omega
  · intro c hc hP
    refine ev_iload dX9_take_87 rfl ?_
    refine ev_iconst dX9_take_89 ?_
    refine ev_icmp_ge (tgt := 123) dX9_take_90 (by decide) (by omega) (by omega) (fun hb90 => ?_) (fun hb90 => ?_)
    · omega
    · first | refine ev_aload_n dX9_take_93 rfl ?_ | refine ev_aloadX_n dX9_take_93 rfl ?_
      refine ev_getR dX9_take_94 fX9_16 rfl (by first | rfl | assumption) (by first | rfl | assumption) ?_
      refine ev_iconst dX9_take_97 ?_
      refine ev_iload_n dX9_take_98 rfl ?_
      refine ev_imul dX9_take_99 ?_
      refine ev_iload dX9_take_100 rfl ?_
      refine ev_iadd dX9_take_102 ?_
      first | refine ev_aload_n dX9_take_103 rfl ?_ | refine ev_aloadX_n dX9_take_103 rfl ?_
      refine ev_getR dX9_take_104 fX9_16 rfl (by first | rfl | assumption) (by first | rfl | assumption) ?_
      refine ev_iconst dX9_take_107 ?_
      refine ev_iload_n dX9_take_108 rfl ?_
      refine ev_imul dX9_take_109 ?_
      refine ev_iconst dX9_take_110 ?_
      refine ev_iadd dX9_take_111 ?_
      refine ev_iload dX9_take_112 rfl ?_
      refine ev_iadd dX9_take_114 ?_
      refine ev_iaload dX9_take_115 (by first | rfl | assumption) (by omega) (by omega) (by decide) ?_
      rw [rwc_at]
      refine ev_iastore dX9_take_116 (by first | rfl | assumption) (by omega) (by omega) (by decide) ?_
      refine ev_iinc dX9_take_117 rfl (by decide) ?_
      refine ev_goto (tgt := 87) dX9_take_120 (by decide) ?_
      refine ev_to hP (by repeat (first | exact trivial | refine ⟨rfl, ?_⟩)) ?_ rfl rfl rfl
      rw [upM_rw, rwc_rwc, rwc_at, hD_s G i c hc]
theorem ktake_loop {m p : Nat} (hp : p ≤ m) (hm : m < 6) (M : Mm) (hb : ∀ j, 0 ≤ j → j < 4 * ((m : Int) + 1) → -1000 ≤ M 57 j ∧ M 57 j ≤ 1000) {Φ : Pz} (hΦ : Φ (some (vI (m : Int))) (chM (mtakM M p m))) : Ev mX9_take 76 [some (vR 54), some (vI (p : Int)), none, some (vI (p : Int)), none] [] KK (upM M 54 8 (m : Int)) PP 0 0 (Rz mX9_take Φ) := by
  have e57 : upM M 54 8 (m : Int) 57 = M 57 := upM_o (by decide)
  have e8 : ∀ f, rwc (upM M 54 8 (m : Int)) 57 f 54 8 = m := fun f => by rw [rwc_ne (by decide), upM_s]
  have hself : upM M 54 8 (m : Int) = rwc (upM M 54 8 (m : Int)) 57 (gW (M 57) p p) := by rw [gW_n, ← e57, rwc_self]
  have c8 : chM (mtakM M p m) 54 8 = m := by
    unfold chM
    rw [rwc_ne (by decide), upM_n (Or.inr (by decide))]
    exact e8 _
  have hmt : mtakM M p m = rwc (upM M 54 8 (m : Int)) 57 (gW (M 57) p m) := rfl
  rw [hself]
  generalize upM M 54 8 (m : Int) = X at *
  refine up_from (P := fun i => Ev mX9_take 76 [some (vR 54), some (vI (p : Int)), none, some (vI (i : Int)), none] [] KK (rwc X 57 (gW (M 57) p (i : Int))) PP 0 0 _) p m hp ?_ ?_
  · have e8' := e8 (gW (M 57) p m)
    rw [← hmt] at e8' ⊢
    refine ev_iload_n dX9_take_76 rfl ?_
    first | refine ev_aload_n dX9_take_77 rfl ?_ | refine ev_aloadX_n dX9_take_77 rfl ?_
    refine ev_gI 8 dX9_take_78 fX9_126 rfl (by first | rfl | assumption) rfl ?_
    rw [e8']
    refine ev_icmp_ge (tgt := 165) dX9_take_81 (by decide) (by omega) (by omega) (fun hb81 => ?_) (fun hb81 => ?_)
    · first | refine ev_aload_n dX9_take_165 rfl ?_ | refine ev_aloadX_n dX9_take_165 rfl ?_
      refine ev_callv (ci := 9) (k_changed (mtakM M p m)) dX9_take_166 tX9_changed.1 kX9_139 tX9_changed.2.1 tX9_changed.2.2.1 rfl (by first | rfl | assumption) tX9_changed.2.2.2 ⟨⟨Nat.le_of_ble_eq_true rfl, Nat.le_of_ble_eq_true rfl⟩, Nat.le_of_ble_eq_true rfl, Nat.le_of_ble_eq_true rfl⟩ rfl (Nat.le_of_ble_eq_true rfl) ?_
      rintro r K' M' P' ⟨rfl, rfl, rfl, hM'⟩
      rw [hM']
      clear hM' M'
      first | refine ev_aload_n dX9_take_169 rfl ?_ | refine ev_aloadX_n dX9_take_169 rfl ?_
      refine ev_gI 8 dX9_take_170 fX9_126 rfl (by first | rfl | assumption) rfl ?_
      rw [c8]
      exact ev_ireturn dX9_take_173 ⟨_, rfl, rfl⟩ (rz hΦ)
    · omega
  · intro i hi1 hi2 hP
    obtain ⟨v0, v1⟩ := hD_v (f := M 57) (p := p) (i := i)
    have b0 := hb (4 * (i : Int) + 4) (by omega) (by omega)
    have b1 := hb (4 * (i : Int) + 5) (by omega) (by omega)
    have mk : mK (M 57) ((i : Int) + 1) = M 57 (4 * (i : Int) + 4) := by unfold mK; congr 1
    have ma : mA (M 57) ((i : Int) + 1) = M 57 (4 * (i : Int) + 5) := by unfold mA; congr 1
    have fin : Ev mX9_take 123 [some (vR 54), some (vI (p : Int)), none, some (vI (i : Int)), none] [] KK (rwc X 57 (hD (gW (M 57) p i) i 4)) PP 0 0 (Rz mX9_take Φ) := by
      first | refine ev_aload_n dX9_take_123 rfl ?_ | refine ev_aloadX_n dX9_take_123 rfl ?_
      refine ev_getR dX9_take_124 fX9_16 rfl (by first | rfl | assumption) (by first | rfl | assumption) ?_
      refine ev_iconst dX9_take_127 ?_
      refine ev_iload_n dX9_take_128 rfl ?_
      refine ev_imul dX9_take_129 ?_
      refine ev_iconst dX9_take_130 ?_
      refine ev_iadd dX9_take_131 ?_
      refine ev_dup2 dX9_take_132 ?_
      refine ev_iaload dX9_take_133 (by first | rfl | assumption) (by omega) (by omega) (by decide) ?_
      rw [rwc_at, v1]
      first | refine ev_aload_n dX9_take_134 rfl ?_ | refine ev_aloadX_n dX9_take_134 rfl ?_
      refine ev_iload_n dX9_take_135 rfl ?_
      refine ev_callv (ci := 9) (k_kind (by omega) (by omega) _) dX9_take_136 tX9_kind.1 kX9_146 tX9_kind.2.1 tX9_kind.2.2.1 rfl (by first | rfl | assumption) tX9_kind.2.2.2 ⟨⟨Nat.le_of_ble_eq_true rfl, Nat.le_of_ble_eq_true rfl⟩, Nat.le_of_ble_eq_true rfl, Nat.le_of_ble_eq_true rfl⟩ rfl (Nat.le_of_ble_eq_true rfl) ?_
      rintro r K' M' P' ⟨rfl, rfl, rfl, hM'⟩
      rw [hM']
      clear hM' M'
      rw [rwc_at, v0]
      refine ev_iconst dX9_take_139 ?_
      refine ev_icmp_ne (tgt := 156) dX9_take_140 (by decide) (by omega) (by omega) (fun hb140 => ?_) (fun hb140 => ?_)
      · refine ev_iconst dX9_take_156 ?_
        refine ev_isub dX9_take_157 ?_
        refine ev_iastore dX9_take_158 (by first | rfl | assumption) (by omega) (by omega) (by decide) ?_
        refine ev_iinc dX9_take_159 rfl (by decide) ?_
        refine ev_goto (tgt := 76) dX9_take_162 (by decide) ?_
        refine ev_to hP (by repeat (first | exact trivial | refine ⟨rfl, ?_⟩)) ?_ rfl rfl rfl
        rw [upM_rw, rwc_rwc, rwc_at]
        exact congrArg (rwc X 57) (gW_s (by omega) (by unfold bmp; rw [mk, ma]; first | rw [if_pos (by omega)] | rw [if_neg (by omega)]))
      · first | refine ev_aload_n dX9_take_143 rfl ?_ | refine ev_aloadX_n dX9_take_143 rfl ?_
        refine ev_iload_n dX9_take_144 rfl ?_
        refine ev_callv (ci := 9) (k_one (by omega) (by omega) _) dX9_take_145 tX9_one.1 kX9_149 tX9_one.2.1 tX9_one.2.2.1 rfl (by first | rfl | assumption) tX9_one.2.2.2 ⟨⟨Nat.le_of_ble_eq_true rfl, Nat.le_of_ble_eq_true rfl⟩, Nat.le_of_ble_eq_true rfl, Nat.le_of_ble_eq_true rfl⟩ rfl (Nat.le_of_ble_eq_true rfl) ?_
        rintro r K' M' P' ⟨rfl, rfl, rfl, hM'⟩
        rw [hM']
        clear hM' M'
        rw [rwc_at, v1]
        refine ev_iload_n dX9_take_148 rfl ?_
        refine ev_icmp_le (tgt := 156) dX9_take_149 (by decide) (by omega) (by omega) (fun hb149 => ?_) (fun hb149 => ?_)
        · refine ev_iconst dX9_take_156 ?_
          refine ev_isub dX9_take_157 ?_
          refine ev_iastore dX9_take_158 (by first | rfl | assumption) (by omega) (by omega) (by decide) ?_
          refine ev_iinc dX9_take_159 rfl (by decide) ?_
          refine ev_goto (tgt := 76) dX9_take_162 (by decide) ?_
          refine ev_to hP (by repeat (first | exact trivial | refine ⟨rfl, ?_⟩)) ?_ rfl rfl rfl
          rw [upM_rw, rwc_rwc, rwc_at]
          exact congrArg (rwc X 57) (gW_s (by omega) (by unfold bmp; rw [mk, ma]; first | rw [if_pos (by omega)] | rw [if_neg (by omega)]))
        · refine ev_iconst dX9_take_152 ?_
          refine ev_goto (tgt := 157) dX9_take_153 (by decide) ?_
          refine ev_isub dX9_take_157 ?_
          refine ev_iastore dX9_take_158 (by first | rfl | assumption) (by omega) (by omega) (by decide) ?_
          refine ev_iinc dX9_take_159 rfl (by decide) ?_
          refine ev_goto (tgt := 76) dX9_take_162 (by decide) ?_
          refine ev_to hP (by repeat (first | exact trivial | refine ⟨rfl, ?_⟩)) ?_ rfl rfl rfl
          rw [upM_rw, rwc_rwc, rwc_at]
          exact congrArg (rwc X 57) (gW_s (by omega) (by unfold bmp; rw [mk, ma]; first | rw [if_pos (by omega)] | rw [if_neg (by omega)]))
    have inn := ktake_in (M := X) (G := gW (M 57) p i) (x := p) (i := i) (by omega) (by omega) fin
    refine ev_iload_n dX9_take_76 rfl ?_
    first | refine ev_aload_n dX9_take_77 rfl ?_ | refine ev_aloadX_n dX9_take_77 rfl ?_
    refine ev_gI 8 dX9_take_78 fX9_126 rfl (by first | rfl | assumption) rfl ?_
    rw [e8]
    refine ev_icmp_ge (tgt := 165) dX9_take_81 (by decide) (by omega) (by omega) (fun hb81 => ?_) (fun hb81 => ?_)
    · omega
    · refine ev_iconst dX9_take_84 ?_
      refine ev_istore dX9_take_85 (by decide) ?_
      exact ev_to inn (by repeat (first | exact trivial | refine ⟨rfl, ?_⟩)) rfl rfl rfl rfl
theorem k_take {n : Nat} {x : Int} (hx : inR x) (M : Mm) (hK : KI M n) : Cm mX9_take [vR 54, vI x] M (fun r M' => ((x < 0 ∨ n ≤ x) ∧ r = some (vI (-101)) ∧ M' = M) ∨ ((0 ≤ x ∧ x < n) ∧ (n = 1 ∨ (x + 1 < n ∧ M 57 (4 * (x + 1)) = 4 ∧ M 57 (4 * (x + 1) + 1) = x)) ∧ r = some (vI (-103)) ∧ M' = M) ∨ ∃ p m : Nat, x = p ∧ n = m + 1 ∧ p ≤ m ∧ 0 < m ∧ ¬ (x + 1 < n ∧ M 57 (4 * (x + 1)) = 4 ∧ M 57 (4 * (x + 1) + 1) = x) ∧ r = some (vI (m : Int)) ∧ M' = chM (mtakM M p m)) := by
  have hs := hK.sz
  have h6 := hK.n6
  refine cm_of (by decide +kernel) (fun _ => trivial) (Nat.le_of_ble_eq_true rfl) ?_
  first | refine ev_aload_n dX9_take_0 rfl ?_ | refine ev_aloadX_n dX9_take_0 rfl ?_
  refine ev_iload_n dX9_take_1 rfl ?_
  refine ev_callv (ci := 9) (k_isStep hx M (by omega) (by omega)) dX9_take_2 tX9_isStep.1 kX9_272 tX9_isStep.2.1 tX9_isStep.2.2.1 rfl (by first | rfl | assumption) tX9_isStep.2.2.2 ⟨⟨Nat.le_of_ble_eq_true rfl, Nat.le_of_ble_eq_true rfl⟩, Nat.le_of_ble_eq_true rfl, Nat.le_of_ble_eq_true rfl⟩ rfl (Nat.le_of_ble_eq_true rfl) ?_
  rintro r K' M' P' ⟨rfl, rfl, ⟨v2, rfl, hw2, hv2⟩, hM'⟩
  rw [hM']
  clear hM' M'
  refine ev_if_ne (tgt := 11) dX9_take_5 (by decide) (by omega) (fun hb5 => ?_) (fun hb5 => ?_)
  · have g2 := hv2.mp (by omega)
    refine ev_iload_n dX9_take_11 rfl ?_
    refine ev_iconst dX9_take_12 ?_
    refine ev_iadd dX9_take_13 ?_
    first | refine ev_aload_n dX9_take_14 rfl ?_ | refine ev_aloadX_n dX9_take_14 rfl ?_
    refine ev_gI 8 dX9_take_15 fX9_126 rfl (by first | rfl | assumption) rfl ?_
    rw [hs]
    refine ev_icmp_ge (tgt := 47) dX9_take_18 (by decide) (by omega) (by omega) (fun hb18 => ?_) (fun hb18 => ?_)
    · refine ev_iconst dX9_take_47 ?_
      refine ev_istore_n dX9_take_48 (by decide) ?_
      first | refine ev_aload_n dX9_take_49 rfl ?_ | refine ev_aloadX_n dX9_take_49 rfl ?_
      refine ev_gI 8 dX9_take_50 fX9_126 rfl (by first | rfl | assumption) rfl ?_
      rw [hs]
      refine ev_iconst dX9_take_53 ?_
      refine ev_icmp_eq (tgt := 61) dX9_take_54 (by decide) (by omega) (by omega) (fun hb54 => ?_) (fun hb54 => ?_)
      · refine ev_bipush dX9_take_61 ?_
        exact ev_ireturn dX9_take_63 ⟨_, rfl, rfl⟩ (rz (Or.inr (Or.inl ⟨by omega, by omega, rfl, rfl⟩)))
      · refine ev_iload_n dX9_take_57 rfl ?_
        refine ev_if_eq (tgt := 64) dX9_take_58 (by decide) (by omega) (fun hb58 => ?_) (fun hb58 => ?_)
        · first | refine ev_aload_n dX9_take_64 rfl ?_ | refine ev_aloadX_n dX9_take_64 rfl ?_
          refine ev_dup dX9_take_65 ?_
          refine ev_gI 8 dX9_take_66 fX9_126 rfl (by first | rfl | assumption) rfl ?_
          rw [hs]
          refine ev_iconst dX9_take_69 ?_
          refine ev_isub dX9_take_70 ?_
          refine ev_pI 8 dX9_take_71 sX9_126 rfl (by first | rfl | assumption) rfl ?_
          refine ev_iload_n dX9_take_74 rfl ?_
          refine ev_istore_n dX9_take_75 (by decide) ?_
          obtain ⟨p, rfl⟩ := Int.eq_ofNat_of_zero_le (show 0 ≤ x by omega)
          obtain ⟨m, rfl⟩ : ∃ m : Nat, n = m + 1 := ⟨n - 1, by omega⟩
          have em : ((m + 1 : Nat) : Int) - 1 = (m : Int) := by omega
          rw [em]
          refine ev_to (ktake_loop (m := m) (p := p) (by omega) (by omega) M (fun j a b => hK.bd j a (by omega)) ?_) (by repeat (first | exact trivial | refine ⟨rfl, ?_⟩)) rfl rfl rfl rfl
          exact Or.inr (Or.inr ⟨p, m, rfl, rfl, by omega, by omega, by omega, rfl, rfl⟩)
        · refine ev_bipush dX9_take_61 ?_
          exact ev_ireturn dX9_take_63 ⟨_, rfl, rfl⟩ (rz (Or.inr (Or.inl ⟨by omega, by omega, rfl, rfl⟩)))
    · first | refine ev_aload_n dX9_take_21 rfl ?_ | refine ev_aloadX_n dX9_take_21 rfl ?_
      refine ev_iload_n dX9_take_22 rfl ?_
      refine ev_iconst dX9_take_23 ?_
      refine ev_iadd dX9_take_24 ?_
      refine ev_callv (ci := 9) (k_kind (x := x + 1) (by omega) (by omega) M) dX9_take_25 tX9_kind.1 kX9_146 tX9_kind.2.1 tX9_kind.2.2.1 rfl (by first | rfl | assumption) tX9_kind.2.2.2 ⟨⟨Nat.le_of_ble_eq_true rfl, Nat.le_of_ble_eq_true rfl⟩, Nat.le_of_ble_eq_true rfl, Nat.le_of_ble_eq_true rfl⟩ rfl (Nat.le_of_ble_eq_true rfl) ?_
      rintro r K' M' P' ⟨rfl, rfl, rfl, hM'⟩
      rw [hM']
      clear hM' M'
      have hbk := hK.bd (4 * (x + 1)) (by omega) (by omega)
      refine ev_iconst dX9_take_28 ?_
      refine ev_icmp_ne (tgt := 47) dX9_take_29 (by decide) (by omega) (by omega) (fun hb29 => ?_) (fun hb29 => ?_)
      · refine ev_iconst dX9_take_47 ?_
        refine ev_istore_n dX9_take_48 (by decide) ?_
        first | refine ev_aload_n dX9_take_49 rfl ?_ | refine ev_aloadX_n dX9_take_49 rfl ?_
        refine ev_gI 8 dX9_take_50 fX9_126 rfl (by first | rfl | assumption) rfl ?_
        rw [hs]
        refine ev_iconst dX9_take_53 ?_
        refine ev_icmp_eq (tgt := 61) dX9_take_54 (by decide) (by omega) (by omega) (fun hb54 => ?_) (fun hb54 => ?_)
        · refine ev_bipush dX9_take_61 ?_
          exact ev_ireturn dX9_take_63 ⟨_, rfl, rfl⟩ (rz (Or.inr (Or.inl ⟨by omega, by omega, rfl, rfl⟩)))
        · refine ev_iload_n dX9_take_57 rfl ?_
          refine ev_if_eq (tgt := 64) dX9_take_58 (by decide) (by omega) (fun hb58 => ?_) (fun hb58 => ?_)
          · first | refine ev_aload_n dX9_take_64 rfl ?_ | refine ev_aloadX_n dX9_take_64 rfl ?_
            refine ev_dup dX9_take_65 ?_
            refine ev_gI 8 dX9_take_66 fX9_126 rfl (by first | rfl | assumption) rfl ?_
            rw [hs]
            refine ev_iconst dX9_take_69 ?_
            refine ev_isub dX9_take_70 ?_
            refine ev_pI 8 dX9_take_71 sX9_126 rfl (by first | rfl | assumption) rfl ?_
            refine ev_iload_n dX9_take_74 rfl ?_
            refine ev_istore_n dX9_take_75 (by decide) ?_
            obtain ⟨p, rfl⟩ := Int.eq_ofNat_of_zero_le (show 0 ≤ x by omega)
            obtain ⟨m, rfl⟩ : ∃ m : Nat, n = m + 1 := ⟨n - 1, by omega⟩
            have em : ((m + 1 : Nat) : Int) - 1 = (m : Int) := by omega
            rw [em]
            refine ev_to (ktake_loop (m := m) (p := p) (by omega) (by omega) M (fun j a b => hK.bd j a (by omega)) ?_) (by repeat (first | exact trivial | refine ⟨rfl, ?_⟩)) rfl rfl rfl rfl
            exact Or.inr (Or.inr ⟨p, m, rfl, rfl, by omega, by omega, by omega, rfl, rfl⟩)
          · refine ev_bipush dX9_take_61 ?_
            exact ev_ireturn dX9_take_63 ⟨_, rfl, rfl⟩ (rz (Or.inr (Or.inl ⟨by omega, by omega, rfl, rfl⟩)))
      · first | refine ev_aload_n dX9_take_32 rfl ?_ | refine ev_aloadX_n dX9_take_32 rfl ?_
        refine ev_iload_n dX9_take_33 rfl ?_
        refine ev_iconst dX9_take_34 ?_
        refine ev_iadd dX9_take_35 ?_
        refine ev_callv (ci := 9) (k_one (x := x + 1) (by omega) (by omega) M) dX9_take_36 tX9_one.1 kX9_149 tX9_one.2.1 tX9_one.2.2.1 rfl (by first | rfl | assumption) tX9_one.2.2.2 ⟨⟨Nat.le_of_ble_eq_true rfl, Nat.le_of_ble_eq_true rfl⟩, Nat.le_of_ble_eq_true rfl, Nat.le_of_ble_eq_true rfl⟩ rfl (Nat.le_of_ble_eq_true rfl) ?_
        rintro r K' M' P' ⟨rfl, rfl, rfl, hM'⟩
        rw [hM']
        clear hM' M'
        have hbo := hK.bd (4 * (x + 1) + 1) (by omega) (by omega)
        refine ev_iload_n dX9_take_39 rfl ?_
        refine ev_icmp_ne (tgt := 47) dX9_take_40 (by decide) (by omega) (by omega) (fun hb40 => ?_) (fun hb40 => ?_)
        · refine ev_iconst dX9_take_47 ?_
          refine ev_istore_n dX9_take_48 (by decide) ?_
          first | refine ev_aload_n dX9_take_49 rfl ?_ | refine ev_aloadX_n dX9_take_49 rfl ?_
          refine ev_gI 8 dX9_take_50 fX9_126 rfl (by first | rfl | assumption) rfl ?_
          rw [hs]
          refine ev_iconst dX9_take_53 ?_
          refine ev_icmp_eq (tgt := 61) dX9_take_54 (by decide) (by omega) (by omega) (fun hb54 => ?_) (fun hb54 => ?_)
          · refine ev_bipush dX9_take_61 ?_
            exact ev_ireturn dX9_take_63 ⟨_, rfl, rfl⟩ (rz (Or.inr (Or.inl ⟨by omega, by omega, rfl, rfl⟩)))
          · refine ev_iload_n dX9_take_57 rfl ?_
            refine ev_if_eq (tgt := 64) dX9_take_58 (by decide) (by omega) (fun hb58 => ?_) (fun hb58 => ?_)
            · first | refine ev_aload_n dX9_take_64 rfl ?_ | refine ev_aloadX_n dX9_take_64 rfl ?_
              refine ev_dup dX9_take_65 ?_
              refine ev_gI 8 dX9_take_66 fX9_126 rfl (by first | rfl | assumption) rfl ?_
              rw [hs]
              refine ev_iconst dX9_take_69 ?_
              refine ev_isub dX9_take_70 ?_
              refine ev_pI 8 dX9_take_71 sX9_126 rfl (by first | rfl | assumption) rfl ?_
              refine ev_iload_n dX9_take_74 rfl ?_
              refine ev_istore_n dX9_take_75 (by decide) ?_
              obtain ⟨p, rfl⟩ := Int.eq_ofNat_of_zero_le (show 0 ≤ x by omega)
              obtain ⟨m, rfl⟩ : ∃ m : Nat, n = m + 1 := ⟨n - 1, by omega⟩
              have em : ((m + 1 : Nat) : Int) - 1 = (m : Int) := by omega
              rw [em]
              refine ev_to (ktake_loop (m := m) (p := p) (by omega) (by omega) M (fun j a b => hK.bd j a (by omega)) ?_) (by repeat (first | exact trivial | refine ⟨rfl, ?_⟩)) rfl rfl rfl rfl
              exact Or.inr (Or.inr ⟨p, m, rfl, rfl, by omega, by omega, by omega, rfl, rfl⟩)
            · refine ev_bipush dX9_take_61 ?_
              exact ev_ireturn dX9_take_63 ⟨_, rfl, rfl⟩ (rz (Or.inr (Or.inl ⟨by omega, by omega, rfl, rfl⟩)))
        · refine ev_iconst dX9_take_43 ?_
          refine ev_goto (tgt := 48) dX9_take_44 (by decide) ?_
          refine ev_istore_n dX9_take_48 (by decide) ?_
          first | refine ev_aload_n dX9_take_49 rfl ?_ | refine ev_aloadX_n dX9_take_49 rfl ?_
          refine ev_gI 8 dX9_take_50 fX9_126 rfl (by first | rfl | assumption) rfl ?_
          rw [hs]
          refine ev_iconst dX9_take_53 ?_
          refine ev_icmp_eq (tgt := 61) dX9_take_54 (by decide) (by omega) (by omega) (fun hb54 => ?_) (fun hb54 => ?_)
          · refine ev_bipush dX9_take_61 ?_
            exact ev_ireturn dX9_take_63 ⟨_, rfl, rfl⟩ (rz (Or.inr (Or.inl ⟨by omega, by omega, rfl, rfl⟩)))
          · refine ev_iload_n dX9_take_57 rfl ?_
            refine ev_if_eq (tgt := 64) dX9_take_58 (by decide) (by omega) (fun hb58 => ?_) (fun hb58 => ?_)
            · first | refine ev_aload_n dX9_take_64 rfl ?_ | refine ev_aloadX_n dX9_take_64 rfl ?_
              refine ev_dup dX9_take_65 ?_
              refine ev_gI 8 dX9_take_66 fX9_126 rfl (by first | rfl | assumption) rfl ?_
              rw [hs]
              refine ev_iconst dX9_take_69 ?_
              refine ev_isub dX9_take_70 ?_
              refine ev_pI 8 dX9_take_71 sX9_126 rfl (by first | rfl | assumption) rfl ?_
              refine ev_iload_n dX9_take_74 rfl ?_
              refine ev_istore_n dX9_take_75 (by decide) ?_
              obtain ⟨p, rfl⟩ := Int.eq_ofNat_of_zero_le (show 0 ≤ x by omega)
              obtain ⟨m, rfl⟩ : ∃ m : Nat, n = m + 1 := ⟨n - 1, by omega⟩
              have em : ((m + 1 : Nat) : Int) - 1 = (m : Int) := by omega
              rw [em]
              refine ev_to (ktake_loop (m := m) (p := p) (by omega) (by omega) M (fun j a b => hK.bd j a (by omega)) ?_) (by repeat (first | exact trivial | refine ⟨rfl, ?_⟩)) rfl rfl rfl rfl
              exact Or.inr (Or.inr ⟨p, m, rfl, rfl, by omega, by omega, by omega, rfl, rfl⟩)
            · refine ev_bipush dX9_take_61 ?_
              exact ev_ireturn dX9_take_63 ⟨_, rfl, rfl⟩ (rz (Or.inr (Or.inl ⟨by omega, by omega, rfl, rfl⟩)))
  · have g2 := (not_congr hv2).mp (by omega)
    refine ev_bipush dX9_take_8 ?_
    exact ev_ireturn dX9_take_10 ⟨_, rfl, rfl⟩ (rz (Or.inl ⟨by omega, rfl, rfl⟩))
/-- the steps alone changed, or how many they are -/
theorem KI.st {M X : Mm} {n m : Nat} (hK : KI M n) (h54 : ∀ j, j ≠ 8 → X 54 j = M 54 j) (hq : ∀ q, q ≠ 54 → q ≠ 57 → X q = M q) (hs : X 54 8 = m) (hm : m ≤ 6) (ho : prOK (mK (X 57)) (mA (X 57)) (mB (X 57)) (mZ (X 57)) m) (hb : ∀ j, 0 ≤ j → j < 4 * (m : Int) → -1000 ≤ X 57 j ∧ X 57 j ≤ 1000) : KI (chM X) m := by
  have c54 : ∀ j, j ≠ 11 → chM X 54 j = X 54 j := fun j hj => by unfold chM; rw [rwc_ne (by decide), upM_n (Or.inr hj)]
  have cq : ∀ q, q ≠ 54 → q ≠ 64 → chM X q = X q := fun q q1 q2 => by unfold chM; rw [rwc_ne q2, upM_o q1]
  have c11 : chM X 54 11 = 1 := by unfold chM; rw [rwc_ne (by decide), upM_s]
  have e57 : chM X 57 = X 57 := cq 57 (by decide) (by decide)
  have d54 : ∀ j, j ≠ 11 → j ≠ 8 → chM X 54 j = M 54 j := fun j j1 j2 => by rw [c54 j j1, h54 j j2]
  have dq : ∀ q, q ≠ 54 → q ≠ 57 → q ≠ 64 → chM X q = M q := fun q q1 q2 q3 => by rw [cq q q1 q3, hq q q1 q2]
  apply KI.mk
  case pg0 => rw [d54 1 (by decide) (by decide)]; exact hK.pg0
  case pg1 => rw [d54 1 (by decide) (by decide)]; exact hK.pg1
  case pgl => rw [d54 1 (by decide) (by decide), dq 55 (by decide) (by decide) (by decide)]; exact hK.pgl
  case sz => rw [c54 8 (by decide)]; exact hs
  case n6 => exact hm
  case ok => rw [e57]; exact ho
  case bd => rw [e57]; exact hb
  case ol => exact Or.inr c11
  case fr => intro h; rw [c11] at h; omega
  case sg => intro p a; rw [dq 59 (by decide) (by decide) (by decide)]; exact hK.sg p a
  case rkb =>
    intro j j1 j2
    have e : chM X 64 j = -1 := by unfold chM; rw [rwc_at]; unfold fillS; rw [if_pos (by omega)]
    rw [e]; omega
  case sn0 => rw [d54 20 (by decide) (by decide)]; exact hK.sn0
  case sn1 => rw [d54 20 (by decide) (by decide)]; exact hK.sn1
  case snb => rw [dq 65 (by decide) (by decide) (by decide)]; exact hK.snb
  case pr => rw [d54 9 (by decide) (by decide)]; exact hK.pr
  case kp => rw [d54 23 (by decide) (by decide), d54 9 (by decide) (by decide)]; exact hK.kp
theorem KI.byM {M : Mm} {n p : Nat} (hK : KI M n) (hp : p < n) {z : Int} (hz : -9 ≤ z ∧ z ≤ 9) : KI (chM (upM M 57 (4 * (p : Int) + 3) (100 + z))) n := by
  have h6 := hK.n6
  have e57 : upM M 57 (4 * (p : Int) + 3) (100 + z) 57 = up1 (M 57) (4 * (p : Int) + 3) (100 + z) := by rw [upM_rw, rwc_at]
  refine hK.st (fun j _ => upM_n (Or.inl (by decide))) (fun q _ q2 => upM_o q2) (by rw [upM_n (Or.inl (by decide))]; exact hK.sz) h6 ?_ ?_
  · rw [e57]
    have k1 : mK (up1 (M 57) (4 * (p : Int) + 3) (100 + z)) = mK (M 57) := by funext j; unfold mK; rw [up1_n (by omega)]
    have k2 : mA (up1 (M 57) (4 * (p : Int) + 3) (100 + z)) = mA (M 57) := by funext j; unfold mA; rw [up1_n (by omega)]
    have k3 : mB (up1 (M 57) (4 * (p : Int) + 3) (100 + z)) = mB (M 57) := by funext j; unfold mB; rw [up1_n (by omega)]
    have k4 : mZ (up1 (M 57) (4 * (p : Int) + 3) (100 + z)) = up1 (mZ (M 57)) p z := by
      funext j
      unfold mZ
      by_cases h : j = p
      · subst h; rw [up1_s, up1_s]; omega
      · rw [up1_n (by omega), up1_n h]
    rw [k1, k2, k3, k4]
    exact prOK_by hK.ok hz
  · rw [e57]
    intro j j1 j2
    by_cases h : j = 4 * (p : Int) + 3
    · subst h; rw [up1_s]; omega
    · rw [up1_n h]; exact hK.bd j j1 j2
theorem k_by {n : Nat} {x z : Int} (hx : inR x) (hz : inR z) (M : Mm) (hK : KI M n) : Cm mX9_by [vR 54, vI x, vI z] M (fun r M' => ((x < 0 ∨ n ≤ x) ∧ r = some (vI (-101)) ∧ M' = M) ∨ ((0 ≤ x ∧ x < n) ∧ ¬ (-9 ≤ z ∧ z ≤ 9) ∧ r = some (vI (-102)) ∧ M' = M) ∨ ((0 ≤ x ∧ x < n) ∧ (-9 ≤ z ∧ z ≤ 9) ∧ (M 57 (4 * x) = 2 ∨ M 57 (4 * x) = 4) ∧ r = some (vI (-103)) ∧ M' = M) ∨ ∃ p : Nat, x = p ∧ p < n ∧ (-9 ≤ z ∧ z ≤ 9) ∧ ¬ (M 57 (4 * x) = 2 ∨ M 57 (4 * x) = 4) ∧ Kq (chM (upM M 57 (4 * x + 3) (100 + z))) M' n ∧ ∃ A s, mPr M' n A s ∧ r = some (vI (crd (A n)))) := by
  have hs := hK.sz
  have h6 := hK.n6
  refine cm_of (by decide +kernel) (fun _ => trivial) (Nat.le_of_ble_eq_true rfl) ?_
  first | refine ev_aload_n dX9_by_0 rfl ?_ | refine ev_aloadX_n dX9_by_0 rfl ?_
  refine ev_iload_n dX9_by_1 rfl ?_
  refine ev_callv (ci := 9) (k_isStep hx M (by omega) (by omega)) dX9_by_2 tX9_isStep.1 kX9_272 tX9_isStep.2.1 tX9_isStep.2.2.1 rfl (by first | rfl | assumption) tX9_isStep.2.2.2 ⟨⟨Nat.le_of_ble_eq_true rfl, Nat.le_of_ble_eq_true rfl⟩, Nat.le_of_ble_eq_true rfl, Nat.le_of_ble_eq_true rfl⟩ rfl (Nat.le_of_ble_eq_true rfl) ?_
  rintro r K' M' P' ⟨rfl, rfl, ⟨v2, rfl, hw2, hv2⟩, hM'⟩
  rw [hM']
  clear hM' M'
  refine ev_if_ne (tgt := 11) dX9_by_5 (by decide) (by omega) (fun hb5 => ?_) (fun hb5 => ?_)
  · have g2 := hv2.mp (by omega)
    refine ev_iload_n dX9_by_11 rfl ?_
    refine ev_i2l dX9_by_12 (by omega) ?_
    refine ev_ldc2 (z := -9) dX9_by_13 jX9_285 (by decide) ?_
    refine ev_ldc2 (z := 9) dX9_by_16 jX9_287 (by decide) ?_
    refine ev_calls (k_in (by omega) (by omega) (by omega) M) dX9_by_19 tX9_in.1 kX9_60 tX9_in.2.1 tX9_in.2.2 ⟨⟨Nat.le_of_ble_eq_true rfl, Nat.le_of_ble_eq_true rfl⟩, Nat.le_of_ble_eq_true rfl, Nat.le_of_ble_eq_true rfl⟩ rfl (Nat.le_of_ble_eq_true rfl) ?_
    rintro r K' M' P' ⟨rfl, rfl, ⟨v19, rfl, hw19, hv19⟩, hM'⟩
    rw [hM']
    clear hM' M'
    refine ev_if_ne (tgt := 28) dX9_by_22 (by decide) (by omega) (fun hb22 => ?_) (fun hb22 => ?_)
    · have g19 := hv19.mp (by omega)
      first | refine ev_aload_n dX9_by_28 rfl ?_ | refine ev_aloadX_n dX9_by_28 rfl ?_
      refine ev_iload_n dX9_by_29 rfl ?_
      refine ev_callv (ci := 9) (k_kind (by omega) (by omega) M) dX9_by_30 tX9_kind.1 kX9_146 tX9_kind.2.1 tX9_kind.2.2.1 rfl (by first | rfl | assumption) tX9_kind.2.2.2 ⟨⟨Nat.le_of_ble_eq_true rfl, Nat.le_of_ble_eq_true rfl⟩, Nat.le_of_ble_eq_true rfl, Nat.le_of_ble_eq_true rfl⟩ rfl (Nat.le_of_ble_eq_true rfl) ?_
      rintro r K' M' P' ⟨rfl, rfl, rfl, hM'⟩
      rw [hM']
      clear hM' M'
      have hbk := hK.bd (4 * x) (by omega) (by omega)
      refine ev_iconst dX9_by_33 ?_
      refine ev_icmp_eq (tgt := 46) dX9_by_34 (by decide) (by omega) (by omega) (fun hb34 => ?_) (fun hb34 => ?_)
      · refine ev_bipush dX9_by_46 ?_
        exact ev_ireturn dX9_by_48 ⟨_, rfl, rfl⟩ (rz (Or.inr (Or.inr (Or.inl ⟨by omega, by omega, by omega, rfl, rfl⟩))))
      · first | refine ev_aload_n dX9_by_37 rfl ?_ | refine ev_aloadX_n dX9_by_37 rfl ?_
        refine ev_iload_n dX9_by_38 rfl ?_
        refine ev_callv (ci := 9) (k_kind (by omega) (by omega) M) dX9_by_39 tX9_kind.1 kX9_146 tX9_kind.2.1 tX9_kind.2.2.1 rfl (by first | rfl | assumption) tX9_kind.2.2.2 ⟨⟨Nat.le_of_ble_eq_true rfl, Nat.le_of_ble_eq_true rfl⟩, Nat.le_of_ble_eq_true rfl, Nat.le_of_ble_eq_true rfl⟩ rfl (Nat.le_of_ble_eq_true rfl) ?_
        rintro r K' M' P' ⟨rfl, rfl, rfl, hM'⟩
        rw [hM']
        clear hM' M'
        refine ev_iconst dX9_by_42 ?_
        refine ev_icmp_ne (tgt := 49) dX9_by_43 (by decide) (by omega) (by omega) (fun hb43 => ?_) (fun hb43 => ?_)
        · obtain ⟨p, rfl⟩ := Int.eq_ofNat_of_zero_le (show 0 ≤ x by omega)
          have hK1 := hK.byM (p := p) (z := z) (by omega) (by omega)
          obtain ⟨A, s, hA, -⟩ := prun_ex n hK1.ok
          first | refine ev_aload_n dX9_by_49 rfl ?_ | refine ev_aloadX_n dX9_by_49 rfl ?_
          refine ev_getR dX9_by_50 fX9_16 rfl (by first | rfl | assumption) (by first | rfl | assumption) ?_
          refine ev_iconst dX9_by_53 ?_
          refine ev_iload_n dX9_by_54 rfl ?_
          refine ev_imul dX9_by_55 ?_
          refine ev_iconst dX9_by_56 ?_
          refine ev_iadd dX9_by_57 ?_
          refine ev_bipush dX9_by_58 ?_
          refine ev_iload_n dX9_by_60 rfl ?_
          refine ev_iadd dX9_by_61 ?_
          refine ev_iastore dX9_by_62 (by first | rfl | assumption) (by omega) (by omega) (by decide) ?_
          first | refine ev_aload_n dX9_by_63 rfl ?_ | refine ev_aloadX_n dX9_by_63 rfl ?_
          refine ev_callv (ci := 9) (k_changed _) dX9_by_64 tX9_changed.1 kX9_139 tX9_changed.2.1 tX9_changed.2.2.1 rfl (by first | rfl | assumption) tX9_changed.2.2.2 ⟨⟨Nat.le_of_ble_eq_true rfl, Nat.le_of_ble_eq_true rfl⟩, Nat.le_of_ble_eq_true rfl, Nat.le_of_ble_eq_true rfl⟩ rfl (Nat.le_of_ble_eq_true rfl) ?_
          rintro r K' M' P' ⟨rfl, rfl, rfl, hM'⟩
          rw [hM']
          clear hM' M'
          first | refine ev_aload_n dX9_by_67 rfl ?_ | refine ev_aloadX_n dX9_by_67 rfl ?_
          refine ev_callv (ci := 9) (k_fresh (n := n) (by omega) _ hK1 hA) dX9_by_68 tX9_freshen.1 kX9_226 tX9_freshen.2.1 tX9_freshen.2.2.1 rfl (by first | rfl | assumption) tX9_freshen.2.2.2 ⟨⟨Nat.le_of_ble_eq_true rfl, Nat.le_of_ble_eq_true rfl⟩, Nat.le_of_ble_eq_true rfl, Nat.le_of_ble_eq_true rfl⟩ rfl (Nat.le_of_ble_eq_true rfl) ?_
          rintro w K' M2 P' ⟨rfl, rfl, rfl, q1, q2⟩
          have h8 := q1.2.sz
          first | refine ev_aload_n dX9_by_71 rfl ?_ | refine ev_aloadX_n dX9_by_71 rfl ?_
          refine ev_getR dX9_by_72 fX9_35 rfl (by first | rfl | assumption) (by first | rfl | assumption) ?_
          first | refine ev_aload_n dX9_by_75 rfl ?_ | refine ev_aloadX_n dX9_by_75 rfl ?_
          refine ev_gI 8 dX9_by_76 fX9_126 rfl (by first | rfl | assumption) rfl ?_
          rw [h8]
          refine ev_iaload dX9_by_79 (by first | rfl | assumption) (by omega) (by omega) (by decide) ?_
          rw [(q2.2.2.2 n (Nat.le_refl n)).2]
          exact ev_ireturn dX9_by_80 ⟨_, rfl, rfl⟩ (rz (Or.inr (Or.inr (Or.inr ⟨p, rfl, by omega, by omega, by omega, q1, A, s, by rw [mPr, q1.p]; exact hA, rfl⟩))))
        · refine ev_bipush dX9_by_46 ?_
          exact ev_ireturn dX9_by_48 ⟨_, rfl, rfl⟩ (rz (Or.inr (Or.inr (Or.inl ⟨by omega, by omega, by omega, rfl, rfl⟩))))
    · have g19 := (not_congr hv19).mp (by omega)
      refine ev_bipush dX9_by_25 ?_
      exact ev_ireturn dX9_by_27 ⟨_, rfl, rfl⟩ (rz (Or.inr (Or.inl ⟨by omega, by omega, rfl, rfl⟩)))
  · have g2 := (not_congr hv2).mp (by omega)
    refine ev_bipush dX9_by_8 ?_
    exact ev_ireturn dX9_by_10 ⟨_, rfl, rfl⟩ (rz (Or.inl ⟨by omega, rfl, rfl⟩))
