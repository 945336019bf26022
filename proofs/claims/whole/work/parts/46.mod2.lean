/-! ===== the reference: rows of points ===== -/
/-- row k of f marks the points of S -/
def Rw (f : Int → Int) (k : Nat) (S : PS) : Prop := ∀ p, inP p → f (4913 * (k : Int) + p) = ind S p
noncomputable def setS (f : Int → Int) (t : Nat) (S : PS) : Int → Int := fun j => if 4913 * (t : Int) ≤ j ∧ j < 4913 * (t : Int) + 4913 then ind S (j - 4913 * (t : Int)) else f j
noncomputable def layS (f : Int → Int) (t : Nat) (S : PS) : Int → Int := fun j => @ite _ ((4913 * (t : Int) ≤ j ∧ j < 4913 * (t : Int) + 4913) ∧ S (j - 4913 * (t : Int))) (Classical.propDecidable _) 1 (f j)
def zrS (f : Int → Int) (t : Nat) (i : Nat) : Int → Int := fun j => if 4913 * (t : Int) ≤ j ∧ j < 4913 * (t : Int) + i then 0 else f j
theorem zrS_0 (f : Int → Int) (t : Nat) : zrS f t 0 = f := by
  funext j
  unfold zrS
  rw [if_neg (by omega)]
theorem setS_at (f : Int → Int) (t : Nat) (S : PS) : Rw (setS f t S) t S := fun p hp => by
  unfold setS
  rw [if_pos (by omega)]
  congr 1
  omega
theorem setS_ne {f : Int → Int} {t k : Nat} {S T : PS} (h : Rw f k T) (hk : k ≠ t) : Rw (setS f t S) k T := fun p hp => by
  unfold setS
  rw [if_neg (by omega)]
  exact h p hp
theorem Rw.cg {f : Int → Int} {k : Nat} {S T : PS} (h : Rw f k S) (hq : ∀ q, inP q → (S q ↔ T q)) : Rw f k T := fun p hp => by
  rw [h p hp]
  unfold ind
  by_cases z : S p
  · rw [if_pos z, if_pos ((hq p hp).mp z)]
  · rw [if_neg z, if_neg (fun w => z ((hq p hp).mpr w))]
theorem Rw.iff {f : Int → Int} {k : Nat} {S : PS} (h : Rw f k S) {p : Int} (hp : inP p) : f (4913 * (k : Int) + p) = 1 ↔ S p := by
  rw [h p hp]; exact ind_iff S p
theorem Rw.v01 {f : Int → Int} {k : Nat} {S : PS} (h : Rw f k S) {p : Int} (hp : inP p) : f (4913 * (k : Int) + p) = 0 ∨ f (4913 * (k : Int) + p) = 1 := by
  rw [h p hp]; exact ind_01 S p
theorem Rw.sum {f : Int → Int} {k : Nat} {S : PS} (h : Rw f k S) : sumS (fun j => f (4913 * (k : Int) + j)) 4913 = crd S := sumS_cg 4913 (fun i hi => h i (by omega))
theorem layS_1 (f : Int → Int) (t : Nat) {p : Int} (hp : inP p) : up1 f (4913 * (t : Int) + p) 1 = layS f t (fun q => q = p) := by
  funext j
  unfold up1 layS
  by_cases h : j = 4913 * (t : Int) + p
  · rw [if_pos h, if_pos (by constructor <;> omega)]
  · rw [if_neg h, if_neg (by omega)]
theorem layS_2 (f : Int → Int) (t : Nat) (S T : PS) : layS (layS f t S) t T = layS f t (fun q => S q ∨ T q) := by
  funext j
  unfold layS
  by_cases h1 : (4913 * (t : Int) ≤ j ∧ j < 4913 * (t : Int) + 4913)
  · by_cases h2 : T (j - 4913 * (t : Int))
    · rw [if_pos ⟨h1, h2⟩, if_pos ⟨h1, Or.inr h2⟩]
    · rw [if_neg (fun z => h2 z.2)]
      by_cases h3 : S (j - 4913 * (t : Int))
      · rw [if_pos ⟨h1, h3⟩, if_pos ⟨h1, Or.inl h3⟩]
      · rw [if_neg (fun z => h3 z.2), if_neg (fun z => z.2.elim h3 h2)]
  · rw [if_neg (fun z => h1 z.1), if_neg (fun z => h1 z.1), if_neg (fun z => h1 z.1)]
theorem layS_cg (f : Int → Int) (t : Nat) {S T : PS} (h : ∀ q, inP q → (S q ↔ T q)) : layS f t S = layS f t T := by
  funext j
  unfold layS
  by_cases h1 : (4913 * (t : Int) ≤ j ∧ j < 4913 * (t : Int) + 4913)
  · have e := h (j - 4913 * (t : Int)) (by omega)
    by_cases h3 : S (j - 4913 * (t : Int))
    · rw [if_pos ⟨h1, h3⟩, if_pos ⟨h1, e.mp h3⟩]
    · rw [if_neg (fun z => h3 z.2), if_neg (fun z => h3 (e.mpr z.2))]
  · rw [if_neg (fun z => h1 z.1), if_neg (fun z => h1 z.1)]
theorem layS_0 (f : Int → Int) (t : Nat) {S : PS} (h : ∀ q, ¬ S q) : layS f t S = f := by
  funext j
  unfold layS
  rw [if_neg (fun z => h _ z.2)]
theorem layS_out {f : Int → Int} {t k : Nat} {S : PS} (hk : k ≠ t) {p : Int} (hp : inP p) : layS f t S (4913 * (k : Int) + p) = f (4913 * (k : Int) + p) := by
  unfold layS
  rw [if_neg (by omega)]
theorem zrS_out {f : Int → Int} {t k : Nat} (hk : k ≠ t) {p : Int} (hp : inP p) : zrS f t 4913 (4913 * (k : Int) + p) = f (4913 * (k : Int) + p) := by
  unfold zrS
  rw [if_neg (by omega)]
theorem lay_set (f : Int → Int) (t : Nat) (S : PS) : layS (zrS f t 4913) t S = setS f t S := by
  funext j
  unfold layS setS zrS
  by_cases h1 : (4913 * (t : Int) ≤ j ∧ j < 4913 * (t : Int) + 4913)
  · rw [if_pos h1]
    by_cases h3 : S (j - 4913 * (t : Int))
    · rw [if_pos ⟨h1, h3⟩, ind_1 h3]
    · rw [if_neg (fun z => h3 z.2), if_pos (by omega), ind_0 h3]
  · rw [if_neg (fun z => h1 z.1), if_neg (by omega), if_neg h1]
/-- a step's doing is that of its points -/
theorem step_pt {kd a b z : Int} {S : PS} {q : Int} : stepS kd a b z S q ↔ ∃ p, S p ∧ stepS kd a b z (fun x => x = p) q := by
  unfold stepS
  by_cases h0 : kd = 0
  · simp only [if_pos h0]
    constructor
    · rintro ⟨h1, h2⟩
      exact ⟨q, h1, rfl, h2⟩
    · rintro ⟨p, h1, rfl, h2⟩
      exact ⟨h1, h2⟩
  · simp only [if_neg h0]
    by_cases h2 : kd = 2
    · simp only [if_pos h2]
      constructor
      · rintro ⟨p, v, h1, h3⟩
        exact ⟨p, h1, p, v, rfl, h3⟩
      · rintro ⟨p, h1, p', v, rfl, h3⟩
        exact ⟨p', v, h1, h3⟩
    · simp only [if_neg h2]
      constructor
      · rintro ⟨p, h1, h3⟩
        exact ⟨p, h1, p, rfl, h3⟩
      · rintro ⟨p, h1, p', rfl, h3⟩
        exact ⟨p', h1, h3⟩
def mK (f : Int → Int) : Int → Int := fun j => f (4 * j)
def mA (f : Int → Int) : Int → Int := fun j => f (4 * j + 1)
def mB (f : Int → Int) : Int → Int := fun j => f (4 * j + 2)
def mZ (f : Int → Int) : Int → Int := fun j => f (4 * j + 3) - 100
abbrev mOK (f : Int → Int) (k : Int) : Prop := stOK (mK f k) (mA f k) (mB f k) (mZ f k)
theorem k_layP {t : Nat} {p : Int} (h1 : t ≤ 9) (hp : inP p) (M : Mm) : Cm mX9_lay [vR 54, vI (t : Int), vI p] M (fun r M' => r = none ∧ M' = rwc M 58 (layS (M 58) t (fun q => q = p))) := by
  refine cm_mono (k_lay (by omega) (by omega) hp M) ?_
  rintro r M' ⟨h, h2⟩
  refine ⟨h, ?_⟩
  rw [h2, upM_rw, layS_1 _ _ hp]
theorem dp_tail {k t : Nat} {p a z w : Int} (hk : k < 6) (ht : t ≤ 9) (hp : inP p) (M : Mm) (e2 : M 57 (4 * (k : Int) + 1) = a) (e4 : M 57 (4 * (k : Int) + 3) - 100 = z) (ha : 0 ≤ a ∧ a < 3) (hz : -9 ≤ z ∧ z ≤ 9) (hw : -8 ≤ w ∧ w ≤ 8) {Φ : Pz} (h1 : (-8 ≤ w + z ∧ w + z ≤ 8) → Φ none (rwc M 58 (layS (M 58) t (fun q => q = wv p a (w + z))))) (h2 : ¬ (-8 ≤ w + z ∧ w + z ≤ 8) → Φ none M) : Ev mX9_doPoint 137 [some (vR 54), some (vI (k : Int)), some (vI p), some (vI (t : Int)), none] [vI w] KK M PP 0 0 (Rz mX9_doPoint Φ) := by
  first | refine ev_aload_n dX9_doPoint_137 rfl ?_ | refine ev_aloadX_n dX9_doPoint_137 rfl ?_
  refine ev_iload_n dX9_doPoint_138 rfl ?_
  refine ev_callv (ci := 9) (k_number (by omega) (by omega) M) dX9_doPoint_139 tX9_number.1 kX9_158 tX9_number.2.1 tX9_number.2.2.1 rfl (by first | rfl | assumption) tX9_number.2.2.2 ⟨⟨Nat.le_of_ble_eq_true rfl, Nat.le_of_ble_eq_true rfl⟩, Nat.le_of_ble_eq_true rfl, Nat.le_of_ble_eq_true rfl⟩ rfl (Nat.le_of_ble_eq_true rfl) ?_
  rintro r K' M' P' ⟨rfl, rfl, rfl, hM'⟩
  rw [hM']
  clear hM' M'
  rw [e4]
  refine ev_iadd dX9_doPoint_142 ?_
  refine ev_istore dX9_doPoint_143 (by decide) ?_
  refine ev_iload dX9_doPoint_145 rfl ?_
  refine ev_i2l dX9_doPoint_147 (by omega) ?_
  refine ev_ldc2 (z := -8) dX9_doPoint_148 jX9_169 (by decide) ?_
  refine ev_ldc2 (z := 8) dX9_doPoint_151 jX9_171 (by decide) ?_
  refine ev_calls (k_in (by omega) (by omega) (by omega) M) dX9_doPoint_154 tX9_in.1 kX9_60 tX9_in.2.1 tX9_in.2.2 ⟨⟨Nat.le_of_ble_eq_true rfl, Nat.le_of_ble_eq_true rfl⟩, Nat.le_of_ble_eq_true rfl, Nat.le_of_ble_eq_true rfl⟩ rfl (Nat.le_of_ble_eq_true rfl) ?_
  rintro r K' M' P' ⟨rfl, rfl, ⟨v154, rfl, hw154, hv154⟩, hM'⟩
  rw [hM']
  clear hM' M'
  refine ev_if_eq (tgt := 176) dX9_doPoint_157 (by decide) (by omega) (fun hb157 => ?_) (fun hb157 => ?_)
  · have g154 := (not_congr hv154).mp (by omega)
    exact ev_return dX9_doPoint_176 rfl (rz (by first | exact h1 g154 | exact h2 g154))
  · have g154 := hv154.mp (by omega)
    first | refine ev_aload_n dX9_doPoint_160 rfl ?_ | refine ev_aloadX_n dX9_doPoint_160 rfl ?_
    refine ev_iload_n dX9_doPoint_161 rfl ?_
    refine ev_iload_n dX9_doPoint_162 rfl ?_
    first | refine ev_aload_n dX9_doPoint_163 rfl ?_ | refine ev_aloadX_n dX9_doPoint_163 rfl ?_
    refine ev_iload_n dX9_doPoint_164 rfl ?_
    refine ev_callv (ci := 9) (k_one (by omega) (by omega) M) dX9_doPoint_165 tX9_one.1 kX9_149 tX9_one.2.1 tX9_one.2.2.1 rfl (by first | rfl | assumption) tX9_one.2.2.2 ⟨⟨Nat.le_of_ble_eq_true rfl, Nat.le_of_ble_eq_true rfl⟩, Nat.le_of_ble_eq_true rfl, Nat.le_of_ble_eq_true rfl⟩ rfl (Nat.le_of_ble_eq_true rfl) ?_
    rintro r K' M' P' ⟨rfl, rfl, rfl, hM'⟩
    rw [hM']
    clear hM' M'
    rw [e2]
    refine ev_iload dX9_doPoint_168 rfl ?_
    refine ev_calls (k_withValue hp ha.1 ha.2 M) dX9_doPoint_170 tX9_withValue.1 kX9_165 tX9_withValue.2.1 tX9_withValue.2.2 ⟨⟨Nat.le_of_ble_eq_true rfl, Nat.le_of_ble_eq_true rfl⟩, Nat.le_of_ble_eq_true rfl, Nat.le_of_ble_eq_true rfl⟩ rfl (Nat.le_of_ble_eq_true rfl) ?_
    rintro r K' M' P' ⟨rfl, rfl, rfl, hM'⟩
    rw [hM']
    clear hM' M'
    refine ev_callv (ci := 9) (k_layP ht (wv_ok hp ha g154).1 M) dX9_doPoint_173 tX9_lay.1 kX9_161 tX9_lay.2.1 tX9_lay.2.2.1 rfl (by first | rfl | assumption) tX9_lay.2.2.2 ⟨⟨Nat.le_of_ble_eq_true rfl, Nat.le_of_ble_eq_true rfl⟩, Nat.le_of_ble_eq_true rfl, Nat.le_of_ble_eq_true rfl⟩ rfl (Nat.le_of_ble_eq_true rfl) ?_
    rintro r K' M' P' ⟨rfl, rfl, rfl, hM'⟩
    rw [hM']
    clear hM' M'
    exact ev_return dX9_doPoint_176 rfl (rz (by first | exact h1 g154 | exact h2 g154))
theorem dp_lose {k t : Nat} {p a : Int} (hk : k < 6) (ht : t ≤ 9) (hp : inP p) (M : Mm) (e2 : M 57 (4 * (k : Int) + 1) = a) (ha : 0 ≤ a ∧ a < 3) {Φ : Pz} (h1 : Φ none (rwc M 58 (layS (M 58) t (fun q => ∃ v, (-8 ≤ v ∧ v ≤ 8) ∧ q = wv p a v)))) : Ev mX9_doPoint 70 [some (vR 54), some (vI (k : Int)), some (vI p), some (vI (t : Int)), none] [] KK M PP 0 0 (Rz mX9_doPoint Φ) := by
  refine ev_bipush dX9_doPoint_70 ?_
  refine ev_istore dX9_doPoint_72 (by decide) ?_
  refine ev_to (L' := [some (vR 54), some (vI (k : Int)), some (vI p), some (vI (t : Int)), some (vI (-8 + ((0 : Nat) : Int)))]) (S' := []) (M' := rwc M 58 (layS (M 58) t (fun q => ∃ v, (-8 ≤ v ∧ v < -8 + ((0 : Nat) : Int)) ∧ q = wv p a v))) (k' := 0) (n' := 0) ?_ (by repeat (first | exact trivial | refine ⟨rfl, ?_⟩)) (by rw [layS_0 _ _ (by rintro q ⟨v, h, -⟩; omega), rwc_self]) rfl rfl rfl
  refine up_loop (P := fun i => Ev mX9_doPoint 74 [some (vR 54), some (vI (k : Int)), some (vI p), some (vI (t : Int)), some (vI (-8 + (i : Int)))] [] KK (rwc M 58 (layS (M 58) t (fun q => ∃ v, (-8 ≤ v ∧ v < -8 + (i : Int)) ∧ q = wv p a v))) PP 0 0 _) 17 ?_ ?_
  · have e : layS (M 58) t (fun q => ∃ v, (-8 ≤ v ∧ v < -8 + ((17 : Nat) : Int)) ∧ q = wv p a v) = layS (M 58) t (fun q => ∃ v, (-8 ≤ v ∧ v ≤ 8) ∧ q = wv p a v) := layS_cg _ _ (fun q _ => ⟨fun ⟨v, h, h'⟩ => ⟨v, by omega, h'⟩, fun ⟨v, h, h'⟩ => ⟨v, by omega, h'⟩⟩)
    rw [e]
    refine ev_iload dX9_doPoint_74 rfl ?_
    refine ev_bipush dX9_doPoint_76 ?_
    refine ev_icmp_ge (tgt := 103) dX9_doPoint_78 (by decide) (by omega) (by omega) (fun hb78 => ?_) (fun hb78 => ?_)
    · refine ev_goto (tgt := 176) dX9_doPoint_103 (by decide) ?_
      exact ev_return dX9_doPoint_176 rfl (rz h1)
    · omega
  · intro i hi hP
    have o57 : ∀ f, rwc M 58 f 57 = M 57 := fun f => rwc_ne (by decide)
    refine ev_iload dX9_doPoint_74 rfl ?_
    refine ev_bipush dX9_doPoint_76 ?_
    refine ev_icmp_ge (tgt := 103) dX9_doPoint_78 (by decide) (by omega) (by omega) (fun hb78 => ?_) (fun hb78 => ?_)
    · omega
    · first | refine ev_aload_n dX9_doPoint_81 rfl ?_ | refine ev_aloadX_n dX9_doPoint_81 rfl ?_
      refine ev_iload_n dX9_doPoint_82 rfl ?_
      refine ev_iload_n dX9_doPoint_83 rfl ?_
      first | refine ev_aload_n dX9_doPoint_84 rfl ?_ | refine ev_aloadX_n dX9_doPoint_84 rfl ?_
      refine ev_iload_n dX9_doPoint_85 rfl ?_
      refine ev_callv (ci := 9) (k_one (by omega) (by omega) _) dX9_doPoint_86 tX9_one.1 kX9_149 tX9_one.2.1 tX9_one.2.2.1 rfl (by first | rfl | assumption) tX9_one.2.2.2 ⟨⟨Nat.le_of_ble_eq_true rfl, Nat.le_of_ble_eq_true rfl⟩, Nat.le_of_ble_eq_true rfl, Nat.le_of_ble_eq_true rfl⟩ rfl (Nat.le_of_ble_eq_true rfl) ?_
      rintro r K' M' P' ⟨rfl, rfl, rfl, hM'⟩
      rw [hM']
      clear hM' M'
      rw [o57, e2]
      refine ev_iload dX9_doPoint_89 rfl ?_
      refine ev_calls (k_withValue hp ha.1 ha.2 _) dX9_doPoint_91 tX9_withValue.1 kX9_165 tX9_withValue.2.1 tX9_withValue.2.2 ⟨⟨Nat.le_of_ble_eq_true rfl, Nat.le_of_ble_eq_true rfl⟩, Nat.le_of_ble_eq_true rfl, Nat.le_of_ble_eq_true rfl⟩ rfl (Nat.le_of_ble_eq_true rfl) ?_
      rintro r K' M' P' ⟨rfl, rfl, rfl, hM'⟩
      rw [hM']
      clear hM' M'
      refine ev_callv (ci := 9) (k_layP ht (wv_ok hp ha (v := -8 + (i : Int)) (by omega)).1 _) dX9_doPoint_94 tX9_lay.1 kX9_161 tX9_lay.2.1 tX9_lay.2.2.1 rfl (by first | rfl | assumption) tX9_lay.2.2.2 ⟨⟨Nat.le_of_ble_eq_true rfl, Nat.le_of_ble_eq_true rfl⟩, Nat.le_of_ble_eq_true rfl, Nat.le_of_ble_eq_true rfl⟩ rfl (Nat.le_of_ble_eq_true rfl) ?_
      rintro r K' M' P' ⟨rfl, rfl, rfl, hM'⟩
      rw [hM']
      clear hM' M'
      refine ev_iinc dX9_doPoint_97 rfl (by decide) ?_
      refine ev_goto (tgt := 74) dX9_doPoint_100 (by decide) ?_
      refine ev_to hP ⟨rfl, rfl, rfl, rfl, ?_, trivial⟩ ?_ rfl rfl rfl
      · show some (some (vI (-8 + (i : Int) + 1))) = some (some (vI (-8 + ((i + 1 : Nat) : Int))))
        congr 3 <;> omega
      · rw [rwc_rwc, rwc_at, layS_2]
        congr 1
        refine layS_cg _ _ (fun q _ => ⟨?_, ?_⟩)
        · rintro (⟨v, h, h'⟩ | h)
          · exact ⟨v, by omega, h'⟩
          · exact ⟨-8 + (i : Int), by omega, h⟩
        · rintro ⟨v, h, h'⟩
          by_cases hv : v = -8 + (i : Int)
          · right; rw [← hv]; exact h'
          · left; exact ⟨v, by omega, h'⟩
theorem k_doPoint {k t : Nat} {p : Int} (hk : k < 6) (ht : t ≤ 9) (hp : inP p) (M : Mm) (hs : sgA M) (hst : mOK (M 57) k) : Cm mX9_doPoint [vR 54, vI (k : Int), vI p, vI (t : Int)] M (fun r M' => r = none ∧ M' = rwc M 58 (layS (M 58) t (stepS (mK (M 57) k) (mA (M 57) k) (mB (M 57) k) (mZ (M 57) k) (fun q => q = p)))) := by
  have e1 : M 57 (4 * (k : Int)) = mK (M 57) k := rfl
  have e2 : M 57 (4 * (k : Int) + 1) = mA (M 57) k := rfl
  have e3 : M 57 (4 * (k : Int) + 2) = mB (M 57) k := rfl
  have e4 : M 57 (4 * (k : Int) + 3) - 100 = mZ (M 57) k := rfl
  unfold mOK at hst
  generalize mK (M 57) k = kd at *
  generalize mA (M 57) k = a at *
  generalize mB (M 57) k = b at *
  generalize mZ (M 57) k = z at *
  have hkd : 0 ≤ kd ∧ kd ≤ 3 := by unfold stOK at hst; omega
  have pb := fun x => pv_rng hp x
  have s0 : kd = 0 → (pv p a + pv p b ≤ z) → rwc M 58 (layS (M 58) t (fun q => q = p)) = rwc M 58 (layS (M 58) t (stepS kd a b z (fun q => q = p))) := by
    intro h h'
    congr 1
    refine layS_cg _ _ (fun q _ => ?_)
    unfold stepS
    rw [if_pos h]
    exact ⟨fun w => ⟨w, by rw [w]; exact h'⟩, fun w => w.1⟩
  have s0n : kd = 0 → ¬ (pv p a + pv p b ≤ z) → M = rwc M 58 (layS (M 58) t (stepS kd a b z (fun q => q = p))) := by
    intro h h'
    rw [layS_0, rwc_self]
    intro q
    unfold stepS
    rw [if_pos h]
    rintro ⟨w, w'⟩
    rw [w] at w'
    exact h' w'
  have s2 : kd = 2 → rwc M 58 (layS (M 58) t (fun q => ∃ v, (-8 ≤ v ∧ v ≤ 8) ∧ q = wv p a v)) = rwc M 58 (layS (M 58) t (stepS kd a b z (fun q => q = p))) := by
    intro h
    congr 1
    refine layS_cg _ _ (fun q _ => ?_)
    unfold stepS
    rw [if_neg (by omega), if_pos h]
    exact ⟨fun ⟨v, w1, w2⟩ => ⟨p, v, rfl, w1, w2⟩, fun ⟨p', v, w, w1, w2⟩ => ⟨v, w1, by rw [← w]; exact w2⟩⟩
  have s3 : kd ≠ 0 → kd ≠ 2 → ∀ w, (if kd = 1 then pv p b else pv p (2 * a)) = w → ((-8 ≤ w + z ∧ w + z ≤ 8) → rwc M 58 (layS (M 58) t (fun q => q = wv p a (w + z))) = rwc M 58 (layS (M 58) t (stepS kd a b z (fun q => q = p)))) ∧ (¬ (-8 ≤ w + z ∧ w + z ≤ 8) → M = rwc M 58 (layS (M 58) t (stepS kd a b z (fun q => q = p)))) := by
    intro h h' w hw
    have key : ∀ q, stepS kd a b z (fun q => q = p) q ↔ (-8 ≤ w + z ∧ w + z ≤ 8) ∧ q = wv p a (w + z) := by
      intro q
      unfold stepS
      rw [if_neg h, if_neg h']
      constructor
      · rintro ⟨p', w1, w2⟩
        subst w1
        rw [hw] at w2
        exact w2
      · rintro ⟨w1, w2⟩
        exact ⟨p, rfl, by rw [hw]; exact w1, by rw [hw]; exact w2⟩
    refine ⟨fun h1 => ?_, fun h1 => ?_⟩
    · congr 1
      exact layS_cg _ _ (fun q _ => ⟨fun x => (key q).mpr ⟨h1, x⟩, fun x => ((key q).mp x).2⟩)
    · rw [layS_0 _ _ (fun q x => h1 ((key q).mp x).1), rwc_self]
  refine cm_of (by decide +kernel) (fun _ => trivial) (Nat.le_of_ble_eq_true rfl) ?_
  first | refine ev_aload_n dX9_doPoint_0 rfl ?_ | refine ev_aloadX_n dX9_doPoint_0 rfl ?_
  refine ev_iload_n dX9_doPoint_1 rfl ?_
  refine ev_callv (ci := 9) (k_kind (by omega) (by omega) M) dX9_doPoint_2 tX9_kind.1 kX9_146 tX9_kind.2.1 tX9_kind.2.2.1 rfl (by first | rfl | assumption) tX9_kind.2.2.2 ⟨⟨Nat.le_of_ble_eq_true rfl, Nat.le_of_ble_eq_true rfl⟩, Nat.le_of_ble_eq_true rfl, Nat.le_of_ble_eq_true rfl⟩ rfl (Nat.le_of_ble_eq_true rfl) ?_
  rintro r K' M' P' ⟨rfl, rfl, rfl, hM'⟩
  rw [hM']
  clear hM' M'
  rw [e1]
  rcases (by omega : kd = 0 ∨ kd = 2 ∨ (kd ≠ 0 ∧ kd ≠ 2)) with h5 | h5 | h5
  · refine ev_lookup (off := 27) (tgt := 32) dX9_doPoint_5 (by decide) (by omega) (by rw [h5]; decide) (by decide) ?_
    have hst0 : lit a ∧ lit b ∧ -9 ≤ z ∧ z ≤ 9 := by unfold stOK at hst; omega
    have pa := pb a
    have pb' := pb b
    first | refine ev_aload_n dX9_doPoint_32 rfl ?_ | refine ev_aloadX_n dX9_doPoint_32 rfl ?_
    refine ev_iload_n dX9_doPoint_33 rfl ?_
    first | refine ev_aload_n dX9_doPoint_34 rfl ?_ | refine ev_aloadX_n dX9_doPoint_34 rfl ?_
    refine ev_iload_n dX9_doPoint_35 rfl ?_
    refine ev_callv (ci := 9) (k_one (by omega) (by omega) M) dX9_doPoint_36 tX9_one.1 kX9_149 tX9_one.2.1 tX9_one.2.2.1 rfl (by first | rfl | assumption) tX9_one.2.2.2 ⟨⟨Nat.le_of_ble_eq_true rfl, Nat.le_of_ble_eq_true rfl⟩, Nat.le_of_ble_eq_true rfl, Nat.le_of_ble_eq_true rfl⟩ rfl (Nat.le_of_ble_eq_true rfl) ?_
    rintro r K' M' P' ⟨rfl, rfl, rfl, hM'⟩
    rw [hM']
    clear hM' M'
    rw [e2]
    refine ev_callv (ci := 9) (k_signed hp hst0.1 M hs) dX9_doPoint_39 tX9_signed.1 kX9_152 tX9_signed.2.1 tX9_signed.2.2.1 rfl (by first | rfl | assumption) tX9_signed.2.2.2 ⟨⟨Nat.le_of_ble_eq_true rfl, Nat.le_of_ble_eq_true rfl⟩, Nat.le_of_ble_eq_true rfl, Nat.le_of_ble_eq_true rfl⟩ rfl (Nat.le_of_ble_eq_true rfl) ?_
    rintro r K' M' P' ⟨rfl, rfl, rfl, hM'⟩
    rw [hM']
    clear hM' M'
    first | refine ev_aload_n dX9_doPoint_42 rfl ?_ | refine ev_aloadX_n dX9_doPoint_42 rfl ?_
    refine ev_iload_n dX9_doPoint_43 rfl ?_
    first | refine ev_aload_n dX9_doPoint_44 rfl ?_ | refine ev_aloadX_n dX9_doPoint_44 rfl ?_
    refine ev_iload_n dX9_doPoint_45 rfl ?_
    refine ev_callv (ci := 9) (k_other (by omega) (by omega) M) dX9_doPoint_46 tX9_other.1 kX9_155 tX9_other.2.1 tX9_other.2.2.1 rfl (by first | rfl | assumption) tX9_other.2.2.2 ⟨⟨Nat.le_of_ble_eq_true rfl, Nat.le_of_ble_eq_true rfl⟩, Nat.le_of_ble_eq_true rfl, Nat.le_of_ble_eq_true rfl⟩ rfl (Nat.le_of_ble_eq_true rfl) ?_
    rintro r K' M' P' ⟨rfl, rfl, rfl, hM'⟩
    rw [hM']
    clear hM' M'
    rw [e3]
    refine ev_callv (ci := 9) (k_signed hp hst0.2.1 M hs) dX9_doPoint_49 tX9_signed.1 kX9_152 tX9_signed.2.1 tX9_signed.2.2.1 rfl (by first | rfl | assumption) tX9_signed.2.2.2 ⟨⟨Nat.le_of_ble_eq_true rfl, Nat.le_of_ble_eq_true rfl⟩, Nat.le_of_ble_eq_true rfl, Nat.le_of_ble_eq_true rfl⟩ rfl (Nat.le_of_ble_eq_true rfl) ?_
    rintro r K' M' P' ⟨rfl, rfl, rfl, hM'⟩
    rw [hM']
    clear hM' M'
    refine ev_iadd dX9_doPoint_52 ?_
    first | refine ev_aload_n dX9_doPoint_53 rfl ?_ | refine ev_aloadX_n dX9_doPoint_53 rfl ?_
    refine ev_iload_n dX9_doPoint_54 rfl ?_
    refine ev_callv (ci := 9) (k_number (by omega) (by omega) M) dX9_doPoint_55 tX9_number.1 kX9_158 tX9_number.2.1 tX9_number.2.2.1 rfl (by first | rfl | assumption) tX9_number.2.2.2 ⟨⟨Nat.le_of_ble_eq_true rfl, Nat.le_of_ble_eq_true rfl⟩, Nat.le_of_ble_eq_true rfl, Nat.le_of_ble_eq_true rfl⟩ rfl (Nat.le_of_ble_eq_true rfl) ?_
    rintro r K' M' P' ⟨rfl, rfl, rfl, hM'⟩
    rw [hM']
    clear hM' M'
    rw [e4]
    refine ev_icmp_gt (tgt := 176) dX9_doPoint_58 (by decide) (by omega) (by omega) (fun hb58 => ?_) (fun hb58 => ?_)
    · exact ev_return dX9_doPoint_176 rfl (rz ⟨rfl, by first | exact s0 h5 (by omega) | exact s0n h5 (by omega)⟩)
    · first | refine ev_aload_n dX9_doPoint_61 rfl ?_ | refine ev_aloadX_n dX9_doPoint_61 rfl ?_
      refine ev_iload_n dX9_doPoint_62 rfl ?_
      refine ev_iload_n dX9_doPoint_63 rfl ?_
      refine ev_callv (ci := 9) (k_layP ht hp M) dX9_doPoint_64 tX9_lay.1 kX9_161 tX9_lay.2.1 tX9_lay.2.2.1 rfl (by first | rfl | assumption) tX9_lay.2.2.2 ⟨⟨Nat.le_of_ble_eq_true rfl, Nat.le_of_ble_eq_true rfl⟩, Nat.le_of_ble_eq_true rfl, Nat.le_of_ble_eq_true rfl⟩ rfl (Nat.le_of_ble_eq_true rfl) ?_
      rintro r K' M' P' ⟨rfl, rfl, rfl, hM'⟩
      rw [hM']
      clear hM' M'
      refine ev_goto (tgt := 176) dX9_doPoint_67 (by decide) ?_
      exact ev_return dX9_doPoint_176 rfl (rz ⟨rfl, by first | exact s0 h5 (by omega) | exact s0n h5 (by omega)⟩)
  · refine ev_lookup (off := 65) (tgt := 70) dX9_doPoint_5 (by decide) (by omega) (by rw [h5]; decide) (by decide) ?_
    have hst2 : 0 ≤ a ∧ a < 3 := by unfold stOK at hst; omega
    exact ev_to (dp_lose hk ht hp M e2 hst2 ⟨rfl, s2 h5⟩) (by repeat (first | exact trivial | refine ⟨rfl, ?_⟩)) rfl rfl rfl rfl
  · refine ev_lookup (off := 101) (tgt := 106) dX9_doPoint_5 (by decide) (by omega) (Op.lookupswitch.offset_none (by simp; omega)) (by decide) ?_
    have hst3 : (0 ≤ a ∧ a < 3) ∧ (kd = 1 → lit b) ∧ -9 ≤ z ∧ z ≤ 9 := by unfold stOK at hst; omega
    first | refine ev_aload_n dX9_doPoint_106 rfl ?_ | refine ev_aloadX_n dX9_doPoint_106 rfl ?_
    refine ev_iload_n dX9_doPoint_107 rfl ?_
    refine ev_callv (ci := 9) (k_kind (by omega) (by omega) M) dX9_doPoint_108 tX9_kind.1 kX9_146 tX9_kind.2.1 tX9_kind.2.2.1 rfl (by first | rfl | assumption) tX9_kind.2.2.2 ⟨⟨Nat.le_of_ble_eq_true rfl, Nat.le_of_ble_eq_true rfl⟩, Nat.le_of_ble_eq_true rfl, Nat.le_of_ble_eq_true rfl⟩ rfl (Nat.le_of_ble_eq_true rfl) ?_
    rintro r K' M' P' ⟨rfl, rfl, rfl, hM'⟩
    rw [hM']
    clear hM' M'
    rw [e1]
    refine ev_iconst dX9_doPoint_111 ?_
    refine ev_icmp_ne (tgt := 128) dX9_doPoint_112 (by decide) (by omega) (by omega) (fun hb112 => ?_) (fun hb112 => ?_)
    · refine ev_iload_n dX9_doPoint_128 rfl ?_
      first | refine ev_aload_n dX9_doPoint_129 rfl ?_ | refine ev_aloadX_n dX9_doPoint_129 rfl ?_
      refine ev_iload_n dX9_doPoint_130 rfl ?_
      refine ev_callv (ci := 9) (k_one (by omega) (by omega) M) dX9_doPoint_131 tX9_one.1 kX9_149 tX9_one.2.1 tX9_one.2.2.1 rfl (by first | rfl | assumption) tX9_one.2.2.2 ⟨⟨Nat.le_of_ble_eq_true rfl, Nat.le_of_ble_eq_true rfl⟩, Nat.le_of_ble_eq_true rfl, Nat.le_of_ble_eq_true rfl⟩ rfl (Nat.le_of_ble_eq_true rfl) ?_
      rintro r K' M' P' ⟨rfl, rfl, rfl, hM'⟩
      rw [hM']
      clear hM' M'
      rw [e2]
      refine ev_calls (k_value hp (by omega) (by omega) M) dX9_doPoint_134 tX9_value.1 kX9_54 tX9_value.2.1 tX9_value.2.2 ⟨⟨Nat.le_of_ble_eq_true rfl, Nat.le_of_ble_eq_true rfl⟩, Nat.le_of_ble_eq_true rfl, Nat.le_of_ble_eq_true rfl⟩ rfl (Nat.le_of_ble_eq_true rfl) ?_
      rintro r K' M' P' ⟨rfl, rfl, rfl, hM'⟩
      rw [hM']
      clear hM' M'
      first | (have s4 := s3 h5.1 h5.2 (pv p b) (if_pos hb112); exact ev_to (dp_tail hk ht hp M e2 e4 hst3.1 hst3.2.2 (pb b) (fun h => ⟨rfl, s4.1 h⟩) (fun h => ⟨rfl, s4.2 h⟩)) (by repeat (first | exact trivial | refine ⟨rfl, ?_⟩)) rfl rfl rfl rfl) | (have s4 := s3 h5.1 h5.2 (pv p (2 * a)) (if_neg hb112); exact ev_to (dp_tail hk ht hp M e2 e4 hst3.1 hst3.2.2 (pb (2 * a)) (fun h => ⟨rfl, s4.1 h⟩) (fun h => ⟨rfl, s4.2 h⟩)) (by repeat (first | exact trivial | refine ⟨rfl, ?_⟩)) rfl rfl rfl rfl)
    · first | refine ev_aload_n dX9_doPoint_115 rfl ?_ | refine ev_aloadX_n dX9_doPoint_115 rfl ?_
      refine ev_iload_n dX9_doPoint_116 rfl ?_
      first | refine ev_aload_n dX9_doPoint_117 rfl ?_ | refine ev_aloadX_n dX9_doPoint_117 rfl ?_
      refine ev_iload_n dX9_doPoint_118 rfl ?_
      refine ev_callv (ci := 9) (k_other (by omega) (by omega) M) dX9_doPoint_119 tX9_other.1 kX9_155 tX9_other.2.1 tX9_other.2.2.1 rfl (by first | rfl | assumption) tX9_other.2.2.2 ⟨⟨Nat.le_of_ble_eq_true rfl, Nat.le_of_ble_eq_true rfl⟩, Nat.le_of_ble_eq_true rfl, Nat.le_of_ble_eq_true rfl⟩ rfl (Nat.le_of_ble_eq_true rfl) ?_
      rintro r K' M' P' ⟨rfl, rfl, rfl, hM'⟩
      rw [hM']
      clear hM' M'
      rw [e3]
      refine ev_callv (ci := 9) (k_signed hp (hst3.2.1 hb112) M hs) dX9_doPoint_122 tX9_signed.1 kX9_152 tX9_signed.2.1 tX9_signed.2.2.1 rfl (by first | rfl | assumption) tX9_signed.2.2.2 ⟨⟨Nat.le_of_ble_eq_true rfl, Nat.le_of_ble_eq_true rfl⟩, Nat.le_of_ble_eq_true rfl, Nat.le_of_ble_eq_true rfl⟩ rfl (Nat.le_of_ble_eq_true rfl) ?_
      rintro r K' M' P' ⟨rfl, rfl, rfl, hM'⟩
      rw [hM']
      clear hM' M'
      refine ev_goto (tgt := 137) dX9_doPoint_125 (by decide) ?_
      first | (have s4 := s3 h5.1 h5.2 (pv p b) (if_pos hb112); exact ev_to (dp_tail hk ht hp M e2 e4 hst3.1 hst3.2.2 (pb b) (fun h => ⟨rfl, s4.1 h⟩) (fun h => ⟨rfl, s4.2 h⟩)) (by repeat (first | exact trivial | refine ⟨rfl, ?_⟩)) rfl rfl rfl rfl) | (have s4 := s3 h5.1 h5.2 (pv p (2 * a)) (if_neg hb112); exact ev_to (dp_tail hk ht hp M e2 e4 hst3.1 hst3.2.2 (pb (2 * a)) (fun h => ⟨rfl, s4.1 h⟩) (fun h => ⟨rfl, s4.2 h⟩)) (by repeat (first | exact trivial | refine ⟨rfl, ?_⟩)) rfl rfl rfl rfl)
theorem k_doStep {k : Nat} (hk : k < 6) (M : Mm) (hs : sgA M) (hst : mOK (M 57) k) {S : PS} (hS : Rw (M 58) k S) (hin : ∀ p, S p → inP p) : Cm mX9_doStep [vR 54, vI (k : Int)] M (fun r M' => r = none ∧ M' = rwc M 58 (setS (M 58) (k + 1) (stepS (mK (M 57) k) (mA (M 57) k) (mB (M 57) k) (mZ (M 57) k) S))) := by
  have o57 : ∀ f, rwc M 58 f 57 = M 57 := fun f => rwc_ne (by decide)
  have o59 : ∀ f, rwc M 58 f 59 = M 59 := fun f => rwc_ne (by decide)
  have hmain : Ev mX9_doStep 32 [some (vR 54), some (vI (k : Int)), some (vI ((0 : Nat) : Int))] [] KK (rwc M 58 (zrS (M 58) (k + 1) 4913)) PP 0 0 (Rz mX9_doStep (fun r M' => r = none ∧ M' = rwc M 58 (setS (M 58) (k + 1) (stepS (mK (M 57) k) (mA (M 57) k) (mB (M 57) k) (mZ (M 57) k) S)))) := by
    refine ev_to (L' := [some (vR 54), some (vI (k : Int)), some (vI ((0 : Nat) : Int))]) (S' := []) (M' := rwc M 58 (layS (zrS (M 58) (k + 1) 4913) (k + 1) (fun q => ∃ p, (0 ≤ p ∧ p < ((0 : Nat) : Int)) ∧ S p ∧ stepS (mK (M 57) k) (mA (M 57) k) (mB (M 57) k) (mZ (M 57) k) (fun x => x = p) q))) (k' := 0) (n' := 0) ?_ (by repeat (first | exact trivial | refine ⟨rfl, ?_⟩)) (by rw [layS_0 _ _ (by rintro q ⟨v, h, -⟩; omega)]) rfl rfl rfl
    refine up_loop (P := fun i => Ev mX9_doStep 32 [some (vR 54), some (vI (k : Int)), some (vI (i : Int))] [] KK (rwc M 58 (layS (zrS (M 58) (k + 1) 4913) (k + 1) (fun q => ∃ p, (0 ≤ p ∧ p < (i : Int)) ∧ S p ∧ stepS (mK (M 57) k) (mA (M 57) k) (mB (M 57) k) (mZ (M 57) k) (fun x => x = p) q))) PP 0 0 _) 4913 ?_ ?_
    · have e : layS (zrS (M 58) (k + 1) 4913) (k + 1) (fun q => ∃ p, (0 ≤ p ∧ p < ((4913 : Nat) : Int)) ∧ S p ∧ stepS (mK (M 57) k) (mA (M 57) k) (mB (M 57) k) (mZ (M 57) k) (fun x => x = p) q) = setS (M 58) (k + 1) (stepS (mK (M 57) k) (mA (M 57) k) (mB (M 57) k) (mZ (M 57) k) S) := by
        rw [← lay_set]
        refine layS_cg _ _ (fun q _ => ?_)
        rw [step_pt (S := S)]
        exact ⟨fun ⟨v, h, h'⟩ => ⟨v, h'⟩, fun ⟨v, h, h'⟩ => ⟨v, by have := hin v h; omega, h, h'⟩⟩
      rw [e]
      refine ev_iload_n dX9_doStep_32 rfl ?_
      refine ev_sipush dX9_doStep_33 ?_
      refine ev_icmp_ge (tgt := 70) dX9_doStep_36 (by decide) (by omega) (by omega) (fun hb36 => ?_) (fun hb36 => ?_)
      · exact ev_return dX9_doStep_70 rfl (rz ⟨rfl, rfl⟩)
      · omega
    · intro i hi hP
      have hip : inP (i : Int) := by omega
      have hrd : ∀ T, rwc M 58 (layS (zrS (M 58) (k + 1) 4913) (k + 1) T) 58 (4913 * (k : Int) + (i : Int)) = M 58 (4913 * (k : Int) + (i : Int)) := fun T => by rw [rwc_at, layS_out (by omega) hip, zrS_out (by omega) hip]
      have h01 := hS.v01 hip
      refine ev_iload_n dX9_doStep_32 rfl ?_
      refine ev_sipush dX9_doStep_33 ?_
      refine ev_icmp_ge (tgt := 70) dX9_doStep_36 (by decide) (by omega) (by omega) (fun hb36 => ?_) (fun hb36 => ?_)
      · omega
      · first | refine ev_aload_n dX9_doStep_39 rfl ?_ | refine ev_aloadX_n dX9_doStep_39 rfl ?_
        refine ev_getR dX9_doStep_40 fX9_20 rfl (by first | rfl | assumption) (by first | rfl | assumption) ?_
        refine ev_sipush dX9_doStep_43 ?_
        refine ev_iload_n dX9_doStep_46 rfl ?_
        refine ev_imul dX9_doStep_47 ?_
        refine ev_iload_n dX9_doStep_48 rfl ?_
        refine ev_iadd dX9_doStep_49 ?_
        refine ev_iaload dX9_doStep_50 (by first | rfl | assumption) (by omega) (by omega) (by decide) ?_
        rw [hrd]
        refine ev_iconst dX9_doStep_51 ?_
        refine ev_icmp_ne (tgt := 64) dX9_doStep_52 (by decide) (by omega) (by omega) (fun hb52 => ?_) (fun hb52 => ?_)
        · refine ev_iinc dX9_doStep_64 rfl (by decide) ?_
          refine ev_goto (tgt := 32) dX9_doStep_67 (by decide) ?_
          refine ev_to hP ⟨rfl, rfl, rfl, trivial⟩ ?_ rfl rfl rfl
          first | rw [rwc_rwc, rwc_at, o57, layS_2] | skip
          congr 1
          refine layS_cg _ _ (fun q _ => ?_)
          constructor
          · first | (rintro (⟨v, h, h'⟩ | h); exact ⟨v, by omega, h'⟩; exact ⟨i, by omega, (hS.iff hip).mp (by omega), h⟩) | (rintro ⟨v, h, h'⟩; exact ⟨v, by omega, h'⟩)
          · rintro ⟨v, h, h'⟩
            by_cases hv : v = (i : Int)
            · subst hv; first | exact Or.inr h'.2 | exact absurd ((hS.iff hip).mpr h'.1) (by omega)
            · first | exact Or.inl ⟨v, by omega, h'⟩ | exact ⟨v, by omega, h'⟩
        · first | refine ev_aload_n dX9_doStep_55 rfl ?_ | refine ev_aloadX_n dX9_doStep_55 rfl ?_
          refine ev_iload_n dX9_doStep_56 rfl ?_
          refine ev_iload_n dX9_doStep_57 rfl ?_
          refine ev_iload_n dX9_doStep_58 rfl ?_
          refine ev_iconst dX9_doStep_59 ?_
          refine ev_iadd dX9_doStep_60 ?_
          refine ev_callv (ci := 9) (k_doPoint (t := k + 1) hk (by omega) hip _ (by intro p a; rw [o59]; exact hs p a) (by rw [o57]; exact hst)) dX9_doStep_61 tX9_doPoint.1 kX9_173 tX9_doPoint.2.1 tX9_doPoint.2.2.1 rfl (by first | rfl | assumption) tX9_doPoint.2.2.2 ⟨⟨Nat.le_of_ble_eq_true rfl, Nat.le_of_ble_eq_true rfl⟩, Nat.le_of_ble_eq_true rfl, Nat.le_of_ble_eq_true rfl⟩ rfl (Nat.le_of_ble_eq_true rfl) ?_
          rintro r K' M' P' ⟨rfl, rfl, rfl, hM'⟩
          rw [hM']
          clear hM' M'
          refine ev_iinc dX9_doStep_64 rfl (by decide) ?_
          refine ev_goto (tgt := 32) dX9_doStep_67 (by decide) ?_
          refine ev_to hP ⟨rfl, rfl, rfl, trivial⟩ ?_ rfl rfl rfl
          first | rw [rwc_rwc, rwc_at, o57, layS_2] | skip
          congr 1
          refine layS_cg _ _ (fun q _ => ?_)
          constructor
          · first | (rintro (⟨v, h, h'⟩ | h); exact ⟨v, by omega, h'⟩; exact ⟨i, by omega, (hS.iff hip).mp (by omega), h⟩) | (rintro ⟨v, h, h'⟩; exact ⟨v, by omega, h'⟩)
          · rintro ⟨v, h, h'⟩
            by_cases hv : v = (i : Int)
            · subst hv; first | exact Or.inr h'.2 | exact absurd ((hS.iff hip).mpr h'.1) (by omega)
            · first | exact Or.inl ⟨v, by omega, h'⟩ | exact ⟨v, by omega, h'⟩
  refine cm_of (by decide +kernel) (fun _ => trivial) (Nat.le_of_ble_eq_true rfl) ?_
  refine ev_iconst dX9_doStep_0 ?_
  refine ev_istore_n dX9_doStep_1 (by decide) ?_
  refine ev_to (L' := [some (vR 54), some (vI (k : Int)), some (vI ((0 : Nat) : Int))]) (S' := []) (M' := rwc M 58 (zrS (M 58) (k + 1) (0 : Nat))) (k' := 0) (n' := 0) ?_ (by repeat (first | exact trivial | refine ⟨rfl, ?_⟩)) (by show M = rwc M 58 (zrS (M 58) (k + 1) 0); rw [zrS_0, rwc_self]) rfl rfl rfl
  refine up_loop (P := fun i => Ev mX9_doStep 2 [some (vR 54), some (vI (k : Int)), some (vI (i : Int))] [] KK (rwc M 58 (zrS (M 58) (k + 1) i)) PP 0 0 _) 4913 ?_ ?_
  case refine_2 =>
    intro i hi hP
    refine ev_iload_n dX9_doStep_2 rfl ?_
    refine ev_sipush dX9_doStep_3 ?_
    refine ev_icmp_ge (tgt := 30) dX9_doStep_6 (by decide) (by omega) (by omega) (fun hb6 => ?_) (fun hb6 => ?_)
    · omega
    · first | refine ev_aload_n dX9_doStep_9 rfl ?_ | refine ev_aloadX_n dX9_doStep_9 rfl ?_
      refine ev_getR dX9_doStep_10 fX9_20 rfl (by first | rfl | assumption) (by first | rfl | assumption) ?_
      refine ev_sipush dX9_doStep_13 ?_
      refine ev_iload_n dX9_doStep_16 rfl ?_
      refine ev_iconst dX9_doStep_17 ?_
      refine ev_iadd dX9_doStep_18 ?_
      refine ev_imul dX9_doStep_19 ?_
      refine ev_iload_n dX9_doStep_20 rfl ?_
      refine ev_iadd dX9_doStep_21 ?_
      refine ev_iconst dX9_doStep_22 ?_
      refine ev_iastore dX9_doStep_23 (by first | rfl | assumption) (by omega) (by omega) (by decide) ?_
      refine ev_iinc dX9_doStep_24 rfl (by decide) ?_
      refine ev_goto (tgt := 2) dX9_doStep_27 (by decide) ?_
      refine ev_to hP ⟨rfl, rfl, rfl, trivial⟩ ?_ rfl rfl rfl
      rw [upM_rw, rwc_rwc, rwc_at]
      congr 1
      funext j
      simp only [zrS, up1]
      by_cases hj : j = 4913 * ((k : Int) + 1) + (i : Int)
      · rw [if_pos hj, if_pos (by omega)]
      · rw [if_neg hj]
        split <;> split <;> first | rfl | omega
  refine ev_iload_n dX9_doStep_2 rfl ?_
  refine ev_sipush dX9_doStep_3 ?_
  refine ev_icmp_ge (tgt := 30) dX9_doStep_6 (by decide) (by omega) (by omega) (fun hb6 => ?_) (fun hb6 => ?_)
  · refine ev_iconst dX9_doStep_30 ?_
    refine ev_istore_n dX9_doStep_31 (by decide) ?_
    exact ev_to hmain (by repeat (first | exact trivial | refine ⟨rfl, ?_⟩)) rfl rfl rfl rfl
  · omega
