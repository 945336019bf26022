/-! ===== a loop is gone round till nothing changes ===== -/
theorem oct_byB {g : Int → Int} (hS : Sym g) (hz : ∀ a, lit a → mt g a (nx a) ≤ 0) (hd : dg16 g) : Oct (byB g) := by
  obtain ⟨e1, e2, e3⟩ := close_ok hS hz
  rcases e1 with e | e
  · obtain ⟨t1, t2⟩ := e2 e
    refine Or.inr ⟨closeF g, t1, fun a ha => ?_, funext fun p => propext ?_⟩
    · obtain ⟨s, q1, q2, q3⟩ := oct_att t1 ha ha
      have := (t2 s q1).mpr q2 a a ha ha
      have := hd a ha
      omega
    · unfold byB
      rw [t2 (pv p) (pv_sgn p)]
  · exact Or.inl fun p hp => e3 e (pv p) (pv_sgn p) hp.2
theorem oct_join {S T : PS} (hS : Oct S) (hT : Oct T) : Oct (joinS S T) := by
  rcases hS with h | ⟨f, f1, f2, rfl⟩
  · rw [join_0l hT h]; exact hT
  · rcases hT with h' | ⟨g, g1, g2, rfl⟩
    · rw [join_0r (Or.inr ⟨f, f1, f2, rfl⟩) h']; exact Or.inr ⟨f, f1, f2, rfl⟩
    · have hm : ∀ a b, lit a → lit b → mt (fun j => max (f j) (g j)) a b = max (mt f a b) (mt g a b) := fun a b _ _ => rfl
      rw [join_by f1 f2 g1 g2 hm]
      refine Or.inr ⟨_, tc_max f1 g1 hm, fun a ha => ?_, rfl⟩
      rw [hm a a ha ha]
      have y1 := f2 a ha
      have y2 := g2 a ha
      omega
theorem oct_step {kd a b z : Int} {S : PS} (h : Oct S) (hst : stOK kd a b z) : Oct (stepS kd a b z S) := by
  rcases h with h | ⟨f, f1, f2, rfl⟩
  · exact Or.inl (stepS_0 h)
  · obtain ⟨o1, o2⟩ := op_ok f1 f2 hst (S := byB f) (fun p => Iff.rfl)
    have e : stepS kd a b z (byB f) = byB (opF kd a b z f) := funext fun q => propext (o2 q).symm
    rw [e]
    exact oct_byB o1.1 o1.2.1 o1.2.2.1
theorem join_l {S T : PS} {p : Int} (h : S p) (hp : inP p) : joinS S T p := ⟨hp, fun a b _ _ => ⟨p, Or.inl h, Int.le_refl _⟩⟩
theorem join_in {S T : PS} {p : Int} (h : joinS S T p) : inP p := h.1
/-- bounds of a set that is not empty -/
theorem bnF_rng {N : PS} (hin : ∀ p, N p → inP p) (hne : ∃ p, N p) {j : Int} (h1 : 0 ≤ j) (h2 : j < 36) : -16 ≤ bnF N j ∧ bnF N j ≤ 16 := by
  obtain ⟨p, hp⟩ := hne
  have g1 := mxA_ge (u := ind N) (a := j / 6) (b := j % 6) 4913 p (hin p hp).1 (hin p hp).2 (ind_1 hp)
  have r1 := pv_rng (hin p hp) (j / 6)
  have r2 := pv_rng (hin p hp) (j % 6)
  have g2 := mxA_le (u := ind N) (a := j / 6) (b := j % 6) (m := 16) (by omega) 4913 (fun p y1 y2 _ => by
    have s1 := pv_rng (p := p) ⟨by omega, by omega⟩ (j / 6)
    have s2 := pv_rng (p := p) ⟨by omega, by omega⟩ (j % 6)
    omega)
  unfold bnF
  omega
theorem bnF_ge {N : PS} {p : Int} (hp : N p) (hin : inP p) {a b : Int} (ha : lit a) (hb : lit b) : pv p a + pv p b ≤ mt (bnF N) a b := by
  have g1 := mxA_ge (u := ind N) (a := a) (b := b) 4913 p hin.1 hin.2 (ind_1 hp)
  show _ ≤ mxA (ind N) ((a * 6 + b) / 6) ((a * 6 + b) % 6) 4913
  rw [show (a * 6 + b) / 6 = a by omega, show (a * 6 + b) % 6 = b by omega]
  exact g1
theorem mxA_sym (u : Int → Int) (a b : Int) : ∀ i : Nat, mxA u a b i = mxA u b a i := by
  intro i
  induction i with
  | zero => rfl
  | succ i ih => simp only [mxA, ih, Int.add_comm (pv i a)]
theorem bnF_sym (N : PS) : Sym (bnF N) := by
  intro a b ha hb
  show mxA (ind N) ((a * 6 + b) / 6) ((a * 6 + b) % 6) 4913 = mxA (ind N) ((b * 6 + a) / 6) ((b * 6 + a) % 6) 4913
  rw [show (a * 6 + b) / 6 = a by omega, show (a * 6 + b) % 6 = b by omega, show (b * 6 + a) / 6 = b by omega, show (b * 6 + a) % 6 = a by omega, mxA_sym]
theorem bnF_nx {N : PS} (hin : ∀ p, N p → inP p) (hne : ∃ p, N p) {a : Int} (ha : lit a) : mt (bnF N) a (nx a) = 0 := by
  obtain ⟨p, hp⟩ := hne
  have hn := nx_lit ha
  have g1 := bnF_ge hp (hin p hp) ha hn
  rw [pv_sgn p a ha] at g1
  have g2 := mxA_le (u := ind N) (a := a) (b := nx a) (m := 0) (by omega) 4913 (fun p _ _ _ => by rw [pv_sgn p a ha]; omega)
  have e : mt (bnF N) a (nx a) = mxA (ind N) a (nx a) 4913 := by
    show mxA (ind N) ((a * 6 + nx a) / 6) ((a * 6 + nx a) % 6) 4913 = _
    rw [show (a * 6 + nx a) / 6 = a by omega, show (a * 6 + nx a) % 6 = nx a by omega]
  omega
/-- the rounds: whether raw bounds are of no points, the raw bounds, the top -/
noncomputable def itR (F : PS) (bd : PS → PS) : Nat → Prop × (Int → Int) × PS
  | 0 => (∀ p, ¬ F p, bnF F, F)
  | i + 1 => (False, wdF (itR F bd i).1 (itR F bd i).2.1 (joinS (itR F bd i).2.2 (bd (itR F bd i).2.2)), byB (wdF (itR F bd i).1 (itR F bd i).2.1 (joinS (itR F bd i).2.2 (bd (itR F bd i).2.2))))
noncomputable abbrev itT (F : PS) (bd : PS → PS) (i : Nat) : PS := (itR F bd i).2.2
noncomputable abbrev itN (F : PS) (bd : PS → PS) (i : Nat) : PS := joinS (itT F bd i) (bd (itT F bd i))
def cvg (F : PS) (bd : PS → PS) (i : Nat) : Prop := ∀ p, itN F bd i p → itT F bd i p
def LoopN (F : PS) (bd : PS → PS) (N : Nat) : Prop := cvg F bd N ∧ ∀ i, i < N → ¬ cvg F bd i
theorem LoopN.uniq {F : PS} {bd : PS → PS} {N N' : Nat} (h : LoopN F bd N) (h' : LoopN F bd N') : N = N' := by
  rcases Nat.lt_trichotomy N N' with q | q | q
  · exact absurd h.1 (h'.2 N q)
  · exact q
  · exact absurd h'.1 (h.2 N' q)
/-- raw bounds as they come -/
def rawOK (R : Int → Int) : Prop := Sym R ∧ (∀ a, lit a → mt R a (nx a) = 0) ∧ ∀ j, 0 ≤ j → j < 36 → -16 ≤ R j ∧ R j ≤ 16
theorem it_ok {F : PS} {bd : PS → PS} (hF : Oct F) (hbd : ∀ T, Oct T → Oct (bd T)) : ∀ i : Nat, (∀ j, j < i → ¬ cvg F bd j) → Oct (itT F bd i) ∧ (¬ (itR F bd i).1 → itT F bd i = byB (itR F bd i).2.1 ∧ rawOK (itR F bd i).2.1) ∧ ((itR F bd i).1 → ∀ p, ¬ itT F bd i p) := by
  intro i
  induction i with
  | zero =>
    intro _
    refine ⟨hF, fun he => ?_, fun he => he⟩
    rcases hF with h | ⟨f, f1, f2, rfl⟩
    · exact absurd h he
    · have hR : ∀ j, 0 ≤ j → j < 36 → bnF (byB f) j = f j := fun j h1 h2 => bnF_tc f1 f2 h1 h2
      have hm : ∀ a b, lit a → lit b → mt (bnF (byB f)) a b = mt f a b := fun a b ha hb => hR _ (by omega) (by omega)
      refine ⟨funext fun p => propext ?_, fun a b ha hb => ?_, fun a ha => ?_, fun j h1 h2 => ?_⟩
      · show byB f p ↔ byB (bnF (byB f)) p
        constructor
        · rintro ⟨y1, y2⟩; exact ⟨y1, fun a b ha hb => by rw [hm a b ha hb]; exact y2 a b ha hb⟩
        · rintro ⟨y1, y2⟩; exact ⟨y1, fun a b ha hb => by rw [← hm a b ha hb]; exact y2 a b ha hb⟩
      · show mt (bnF (byB f)) a b = mt (bnF (byB f)) b a
        rw [hm a b ha hb, hm b a hb ha]; exact f1.1 a b ha hb
      · show mt (bnF (byB f)) a (nx a) = 0
        rw [hm a _ ha (nx_lit ha)]; exact f1.2.2.1 a ha
      · show -16 ≤ bnF (byB f) j ∧ bnF (byB f) j ≤ 16
        rw [hR j h1 h2]; exact tc_bd f1 f2 j h1 h2
  | succ i ih =>
    intro hn
    obtain ⟨o1, o2, o3⟩ := ih (fun j hj => hn j (by omega))
    have hnc := hn i (by omega)
    -- the next set is not empty
    have hne : ∃ p, itN F bd i p := by
      by_cases hc : ∃ p, itN F bd i p
      · exact hc
      · exact absurd (fun p hp => absurd ⟨p, hp⟩ hc) hnc
    have hin : ∀ p, itN F bd i p → inP p := fun p hp => hp.1
    have hR : rawOK (wdF (itR F bd i).1 (itR F bd i).2.1 (itN F bd i)) := by
      by_cases he : (itR F bd i).1
      · have e : wdF (itR F bd i).1 (itR F bd i).2.1 (itN F bd i) = bnF (itN F bd i) := by
          funext j; unfold wdF; rw [if_pos he]
        rw [e]
        exact ⟨bnF_sym _, fun a ha => bnF_nx hin hne ha, fun j h1 h2 => bnF_rng hin hne h1 h2⟩
      · obtain ⟨r0, r1, r2, r3⟩ := o2 he
        have e : ∀ j, wdF (itR F bd i).1 (itR F bd i).2.1 (itN F bd i) j = if (itR F bd i).2.1 j < bnF (itN F bd i) j then 16 else (itR F bd i).2.1 j := by
          intro j; unfold wdF; rw [if_neg he]
        refine ⟨fun a b ha hb => ?_, fun a ha => ?_, fun j h1 h2 => ?_⟩
        · unfold mt
          rw [e, e]
          have y1 := r1 a b ha hb
          have y2 := bnF_sym (itN F bd i) a b ha hb
          unfold mt at y1 y2
          rw [y1, y2]
        · unfold mt
          rw [e]
          have y1 := r2 a ha
          have y2 := bnF_nx hin hne ha
          unfold mt at y1 y2
          rw [y1, y2, if_neg (by omega)]
        · rw [e]
          have y1 := r3 j h1 h2
          split <;> omega
    refine ⟨?_, fun _ => ⟨rfl, hR⟩, fun z => z.elim⟩
    refine oct_byB hR.1 (fun a ha => by rw [hR.2.1 a ha]; omega) (fun a ha => ?_)
    exact (hR.2.2 (a * 6 + a) (by omega) (by omega)).2
def c16 (R : Int → Int) : Nat → Nat
  | 0 => 0
  | i + 1 => c16 R i + (if R i = 16 then 1 else 0)
theorem c16_le (R : Int → Int) (i : Nat) : c16 R i ≤ i := by
  induction i with
  | zero => exact Nat.le_refl _
  | succ i ih => simp only [c16]; split <;> omega
theorem c16_mono {R R' : Int → Int} : ∀ i : Nat, (∀ j : Int, 0 ≤ j → j < i → R j = 16 → R' j = 16) → c16 R i ≤ c16 R' i := by
  intro i
  induction i with
  | zero => intro _; exact Nat.le_refl _
  | succ i ih =>
    intro h
    have h1 := ih (fun j q1 q2 => h j q1 (by omega))
    have h2 := h i (by omega) (by omega)
    simp only [c16]
    by_cases hc : R i = 16
    · rw [if_pos hc, if_pos (h2 hc)]; omega
    · rw [if_neg hc]; split <;> omega
theorem c16_lt {R R' : Int → Int} : ∀ i : Nat, (∀ j : Int, 0 ≤ j → j < i → R j = 16 → R' j = 16) → (∃ j : Int, 0 ≤ j ∧ j < i ∧ R j ≠ 16 ∧ R' j = 16) → c16 R i < c16 R' i := by
  intro i
  induction i with
  | zero => rintro - ⟨j, h1, h2, -⟩; omega
  | succ i ih =>
    rintro h ⟨j, h1, h2, h3, h4⟩
    have hm := c16_mono (R := R) (R' := R') i (fun j q1 q2 => h j q1 (by omega))
    have hi := h i (by omega) (by omega)
    simp only [c16]
    by_cases hj : j = (i : Int)
    · rw [hj] at h3 h4
      rw [if_neg h3, if_pos h4]; omega
    · have := ih (fun j q1 q2 => h j q1 (by omega)) ⟨j, h1, by omega, h3, h4⟩
      by_cases hc : R i = 16
      · rw [if_pos hc, if_pos (hi hc)]; omega
      · rw [if_neg hc]; split <;> omega
/-- in a round that changes, one raw bound more is the greatest -/
theorem it_grow {F : PS} {bd : PS → PS} (hF : Oct F) (hbd : ∀ T, Oct T → Oct (bd T)) {i : Nat} (hn : ∀ j, j ≤ i → ¬ cvg F bd j) (he : ¬ (itR F bd i).1) : c16 (itR F bd i).2.1 36 < c16 (itR F bd (i + 1)).2.1 36 := by
  obtain ⟨o1, o2, -⟩ := it_ok hF hbd i (fun j hj => hn j (by omega))
  obtain ⟨r0, r1, r2, r3⟩ := o2 he
  have e : ∀ j, (itR F bd (i + 1)).2.1 j = if (itR F bd i).2.1 j < bnF (itN F bd i) j then 16 else (itR F bd i).2.1 j := by
    intro j
    show wdF (itR F bd i).1 (itR F bd i).2.1 (itN F bd i) j = _
    unfold wdF; rw [if_neg he]
  obtain ⟨p, hp1, hp2⟩ : ∃ p, itN F bd i p ∧ ¬ itT F bd i p := by
    by_cases hc : ∃ p, itN F bd i p ∧ ¬ itT F bd i p
    · exact hc
    · refine absurd (fun p hp => ?_) (hn i (Nat.le_refl i))
      by_cases hq : itT F bd i p
      · exact hq
      · exact absurd ⟨p, hp, hq⟩ hc
  rw [r0] at hp2
  have hns : ∃ a b, lit a ∧ lit b ∧ mt (itR F bd i).2.1 a b < pv p a + pv p b := by
    by_cases hc : ∃ a b, lit a ∧ lit b ∧ mt (itR F bd i).2.1 a b < pv p a + pv p b
    · exact hc
    · refine absurd ⟨hp1.1, fun a b ha hb => ?_⟩ hp2
      by_cases hq : pv p a + pv p b ≤ mt (itR F bd i).2.1 a b
      · exact hq
      · exact absurd ⟨a, b, ha, hb, by omega⟩ hc
  obtain ⟨a, b, ha, hb, hlt⟩ := hns
  have g := bnF_ge hp1 hp1.1 ha hb
  have r4 := pv_rng hp1.1 a
  have r5 := pv_rng hp1.1 b
  unfold mt at hlt g
  refine c16_lt 36 (fun j q1 q2 q3 => ?_) ⟨a * 6 + b, by omega, by omega, by omega, ?_⟩
  · rw [e]; split
    · rfl
    · exact q3
  · rw [e, if_pos (by omega)]
theorem loop_ends {F : PS} {bd : PS → PS} (hF : Oct F) (hbd : ∀ T, Oct T → Oct (bd T)) : ∃ N, N ≤ 40 ∧ LoopN F bd N := by
  have key : ∃ N, N ≤ 40 ∧ cvg F bd N := by
    by_cases hc : ∃ N, N ≤ 40 ∧ cvg F bd N
    · exact hc
    · have hn : ∀ j, j ≤ 40 → ¬ cvg F bd j := fun j hj z => hc ⟨j, hj, z⟩
      have grow : ∀ i : Nat, i ≤ 39 → i ≤ c16 (itR F bd (i + 1)).2.1 36 := by
        intro i
        induction i with
        | zero => intro _; exact Nat.zero_le _
        | succ i ih =>
          intro hi
          have h1 := ih (by omega)
          have h2 := it_grow hF hbd (i := i + 1) (fun j hj => hn j (by omega)) (fun z => z)
          omega
      have h1 : 39 ≤ c16 (itR F bd 40).2.1 36 := grow 39 (by omega)
      have h2 := c16_le (itR F bd 40).2.1 36
      exact absurd h1 (by omega)
  obtain ⟨N0, h0, h1⟩ := key
  obtain ⟨N, h2, h3⟩ := pk_least (fun k => cvg F bd k) ⟨N0, h1⟩
  refine ⟨N, ?_, h2, h3⟩
  by_cases hle : N ≤ N0
  · omega
  · exact absurd h1 (h3 N0 (by omega))
