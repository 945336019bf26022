/-! ===== calls that only ask ===== -/
theorem lc_as {M : Mm} {n c : Nat} (h : SR M n c) {x y : Int} (hx : inR x) (hy : inR y) : Cm mX8_as [vR 0, vI x, vI y] M (fun r M1 => Cs mX9_as [vI x, vI y] c r M1) := by
  refine cm_mono (c_as hx hy M h.1) ?_
  rintro r M1 ⟨rfl, rfl⟩
  have h6 := h.1.n6
  refine ⟨⟨_, rfl⟩, cm_mono (k_as hx hy _ h.2.1.sz h6 (fun j a b => by have := h.2.1.bd (4 * j) (by omega) (by omega); omega)) ?_⟩
  rintro r M2 ⟨rfl, rfl⟩
  refine ⟨?_, n, h.askq h.1 (fun _ _ => rfl) (Kq.rf h.2.1)⟩
  by_cases hg : x < 0 ∨ (n : Int) ≤ x
  · rw [if_pos hg, if_pos hg]
  · obtain ⟨k, rfl⟩ := Int.eq_ofNat_of_zero_le (show 0 ≤ x by omega)
    rw [(h.2.2.st k (by omega)).1]
theorem lc_bound {M : Mm} {n c : Nat} (h : SR M n c) {x a b : Int} (hx : inR x) (ha : inR a) (hb : inR b) : Cm mX8_bound [vR 0, vI x, vI a, vI b] M (fun r M1 => Cs mX9_bound [vI x, vI a, vI b] c r M1) := by
  obtain ⟨A, r, hA, hP, -⟩ := h.run
  refine cm_mono (c_bound hx ha hb M h.1) ?_
  rintro r1 M1 ⟨rfl, rfl⟩
  refine ⟨⟨_, rfl⟩, cm_mono (k_bound hx ha hb _ h.2.1 hP) ?_⟩
  rintro r2 M2 ⟨rfl, hq⟩
  refine ⟨?_, n, h.askq h.1 (fun _ _ => rfl) hq⟩
  refine congrArg (fun z => some (vI z)) ?_
  unfold kBn
  by_cases h1 : 0 < n ∧ 0 ≤ x ∧ x ≤ n
  · obtain ⟨k, rfl⟩ := Int.eq_ofNat_of_zero_le h1.2.1
    rw [if_neg (fun z => z h1)]
    by_cases h2 : lit a ∧ lit b
    · rw [if_neg (fun z => z h2)]
      exact ((hA h1.1 k (by omega)).bv h1.1 (by omega) h2.1 h2.2).1.symm
    · rw [if_pos h2]
      unfold bndV
      rw [if_neg (fun z => z h1), if_pos h2]
  · rw [if_pos h1]
    unfold bndV
    rw [if_pos h1]
theorem pt_c {M : Mm} {k : Nat} {f : Int → Int} : ∀ q, (q < 54 ∧ cC q) ∨ 54 ≤ q → rwc M 16 f q = M q := fun q hq => rwc_ne (by omega)
theorem lc_points {M : Mm} {n c : Nat} (h : SR M n c) {x : Int} (hx : inR x) : Cm mX8_points [vR 0, vI x] M (fun r M1 => Cs mX9_points [vI x] c r M1) := by
  obtain ⟨A, r, hA, hP, -⟩ := h.run
  refine cm_mono (c_points hx M h.1) ?_
  rintro r1 M1 (⟨h1, rfl, rfl⟩ | ⟨k, rfl, h1, h2, rfl, rfl⟩)
  · refine ⟨⟨_, rfl⟩, cm_mono (k_points hx _ h.2.1 hP) ?_⟩
    rintro r2 M2 ⟨rfl, hq⟩
    refine ⟨?_, n, h.askq h.1 (fun _ _ => rfl) hq⟩
    unfold kPt
    rw [if_pos h1]
  · have e57 : (rwc M 16 (up1 (M 16) k (cntF M (aC k)))) 57 = M 57 := rwc_ne (by decide)
    refine ⟨⟨_, rfl⟩, cm_mono (k_points hx _ (h.2.1.hi (fun q hq => rwc_ne (by omega))) (A := A) (r := r) (fun z => by rw [mPr, e57]; exact hP z)) ?_⟩
    rintro r2 M2 ⟨rfl, hq⟩
    refine ⟨?_, n, h.askq (Pc.pt h.1 |>.ci h.1) (fun q hq => rwc_ne (by omega)) hq⟩
    unfold kPt
    rw [if_neg (by omega), (hA h1 k h2).cnt]
    rfl
theorem lc_share {M : Mm} {n c : Nat} (h : SR M n c) {x : Int} (hx : inR x) : Cm mX8_share [vR 0, vI x] M (fun r M1 => CsL mX9_share [vI x] c r M1) := by
  obtain ⟨A, r, hA, hP, -⟩ := h.run
  refine cm_mono (c_share hx M h.1) ?_
  rintro r1 M1 (⟨h1, rfl, rfl⟩ | ⟨k, rfl, h1, h2, rfl, rfl⟩)
  · refine ⟨⟨_, rfl⟩, cm_mono (k_share hx _ h.2.1 hP) ?_⟩
    rintro r2 M2 ⟨rfl, hq⟩
    refine ⟨?_, n, h.askq h.1 (fun _ _ => rfl) hq⟩
    unfold kSh
    rw [if_pos h1]
  · have e57 : (rwc M 16 (up1 (M 16) k (cntF M (aC k)))) 57 = M 57 := rwc_ne (by decide)
    refine ⟨⟨_, rfl⟩, cm_mono (k_share hx _ (h.2.1.hi (fun q hq => rwc_ne (by omega))) (A := A) (r := r) (fun z => by rw [mPr, e57]; exact hP z)) ?_⟩
    rintro r2 M2 ⟨rfl, hq⟩
    refine ⟨?_, n, h.askq (Pc.pt h.1 |>.ci h.1) (fun q hq => rwc_ne (by omega)) hq⟩
    unfold kSh
    rw [if_neg (by omega), (hA h1 k h2).cnt]
    rfl
theorem lc_has {M : Mm} {n c : Nat} (h : SR M n c) {x a b z : Int} (hx : inR x) (ha : inR a) (hb : inR b) (hz : inR z) : Cm mX8_has [vR 0, vI x, vI a, vI b, vI z] M (fun r M1 => Cs mX9_has [vI x, vI a, vI b, vI z] c r M1) := by
  obtain ⟨A, r, hA, hP, -⟩ := h.run
  refine cm_mono (c_has hx ha hb hz M h.1) ?_
  rintro r1 M1 ⟨hM, h1⟩
  subst hM
  refine ⟨by rcases h1 with ⟨-, e⟩ | ⟨-, -, e⟩ | ⟨k, -, -, -, -, v, e, -⟩ <;> exact ⟨_, e⟩, cm_mono (k_has hx ha hb hz M1 h.2.1 hP) ?_⟩
  rintro r2 M2 ⟨rfl, hq⟩
  refine ⟨?_, n, h.askq h.1 (fun _ _ => rfl) hq⟩
  unfold kHs
  rcases h1 with ⟨h1, rfl⟩ | ⟨h1, h2, rfl⟩ | ⟨k, rfl, h1, h2, h3, v, rfl, h4, h5⟩
  · rw [if_pos h1]
  · rw [if_neg (fun y => y h1), if_pos h2]
  · rw [if_neg (by omega), if_neg (fun y => y h3)]
    refine congrArg (fun z => some (vI z)) ?_
    have e := (hA h1 k h2).has (x := a) (y := b) (z := z) h3.1 h3.2.1 h3.2.2
    rw [e] at h5
    show ind (A k) _ = v
    rcases h4 with e4 | e4
    · rw [ind_0 (fun y => by have := h5.mpr y; omega), e4]
    · rw [ind_1 (h5.mp e4), e4]
theorem lc_compare {M : Mm} {n c : Nat} (h : SR M n c) {x y : Int} (hx : inR x) (hy : inR y) : Cm mX8_compare [vR 0, vI x, vI y] M (fun r M1 => Cs mX9_compare [vI x, vI y] c r M1) := by
  obtain ⟨A, r, hA, hP, -⟩ := h.run
  refine cm_mono (c_compare hx hy M h.1 hA) ?_
  rintro r1 M1 (⟨h1, rfl, rfl⟩ | ⟨k, j, rfl, rfl, h1, h2, h3, rfl, hf, h52⟩)
  · refine ⟨⟨_, rfl⟩, cm_mono (k_compare hx hy _ h.2.1 hP) ?_⟩
    rintro r2 M2 ⟨rfl, hq⟩
    refine ⟨?_, n, h.askq h.1 (fun _ _ => rfl) hq⟩
    unfold kCp
    rw [if_pos h1]
  · have hlo : ∀ q, q ≠ 52 → q ≠ 53 → M1 q = M q := fun q a b => hf q a b
    have hC1 : CI M1 n := by
      refine h.1.ch ?_ (fun q a b => hlo q (by omega) (by omega)) (by rw [hlo 39 (by decide) (by decide)]; exact h.1.rk)
      have hJ := h.1.j
      apply CJ.mk
      case sz => rw [hlo 9 (by decide) (by decide)]; exact hJ.sz
      case n6 => exact hJ.n6
      case ok => rw [hlo 10 (by decide) (by decide), hlo 11 (by decide) (by decide), hlo 12 (by decide) (by decide), hlo 13 (by decide) (by decide)]; exact hJ.ok
      case b9 => intro j; rw [hlo _ (by decide) (by decide), hlo _ (by decide) (by decide), hlo _ (by decide) (by decide), hlo _ (by decide) (by decide)]; exact hJ.b9 j
      case b4 => intro j; rw [hlo _ (by decide) (by decide), hlo _ (by decide) (by decide), hlo _ (by decide) (by decide), hlo _ (by decide) (by decide)]; exact hJ.b4 j
      case b43 => intro j; rw [hlo _ (by decide) (by decide), hlo _ (by decide) (by decide), hlo _ (by decide) (by decide), hlo _ (by decide) (by decide)]; exact hJ.b43 j
      case pg0 => rw [hlo 1 (by decide) (by decide)]; exact hJ.pg0
      case pg1 => rw [hlo 1 (by decide) (by decide)]; exact hJ.pg1
      case pgl => intro j; rw [hlo 1 (by decide) (by decide), hlo 2 (by decide) (by decide)]; exact hJ.pgl j
      case rd3 => rw [hlo 3 (by decide) (by decide)]; exact hJ.rd3
      case rkb => intro j; rw [hlo 38 (by decide) (by decide)]; exact hJ.rkb j
      case sn0 => rw [hlo 40 (by decide) (by decide)]; exact hJ.sn0
      case sn1 => rw [hlo 40 (by decide) (by decide)]; exact hJ.sn1
      case snb => intro j; rw [hlo 41 (by decide) (by decide), hlo 49 (by decide) (by decide)]; exact hJ.snb j
      case snr => intro j; rw [hlo 42 (by decide) (by decide), hlo 50 (by decide) (by decide)]; exact hJ.snr j
      case im0 => rw [hlo 0 (by decide) (by decide)]; exact hJ.im0
      case im1 => rw [hlo 0 (by decide) (by decide), hlo 43 (by decide) (by decide), hlo 44 (by decide) (by decide), hlo 45 (by decide) (by decide), hlo 46 (by decide) (by decide), hlo 47 (by decide) (by decide), hlo 48 (by decide) (by decide)]; exact hJ.im1
      case rdg => rw [hlo 0 (by decide) (by decide)]; exact hJ.rdg
      case sc => exact h52
    refine ⟨⟨_, rfl⟩, cm_mono (k_compare hx hy M1 (h.2.1.hi (fun q hq => hlo q (by omega) (by omega))) (A := A) (r := r) (fun z => by rw [mPr, hlo 57 (by decide) (by decide)]; exact hP z)) ?_⟩
    rintro r2 M2 ⟨rfl, hq⟩
    refine ⟨?_, n, h.askq hC1 (fun q hq => hlo q (by omega) (by omega)) hq⟩
    unfold kCp
    rw [if_neg (by omega)]
    rfl
/-- sorts are told alike -/
theorem so_eq {fs fo fs' fo' : Int → Int} {st : Int} : ∀ n : Nat, (∀ j : Nat, j < n → fs' j = fs j ∧ fo' j = fo j) → soS fs' fo' st n = soS fs fo st n := by
  intro n
  induction n with
  | zero => intro _; rfl
  | succ n ih =>
    intro h
    simp only [soS]
    rw [ih (fun j hj => h j (by omega)), (h n (by omega)).1, (h n (by omega)).2]
theorem SL.so {M : Mm} {n c : Nat} (h : SL M n c) (st : Int) : mso M st (M 54 20).toNat = soS (M 41) (M 42) st (M 40 2).toNat := by
  rw [h.sn]
  exact so_eq _ (fun j hj => h.ss j hj)
theorem idle_eq {kf kf' : Int → Int} {A : Nat → PS} {k : Nat} (h : kf' k = kf k) : idleV kf' A k = idleV kf A k := by unfold idleV; rw [h]
theorem step_eq {M : Mm} {n c : Nat} (h : SL M n c) (A : Nat → PS) {k : Nat} (hk : k < n) (w : Int) : mstp M A k w = stpV M A k w := by
  obtain ⟨a1, a2, a3, a4⟩ := h.st k hk
  have ei : idleV (mK (M 57)) A k = idleV (M 10) A k := idle_eq a1
  unfold mstp stpV
  rw [h.so, ei]
  by_cases w0 : w = 0
  · rw [if_pos (Or.inl w0), if_pos w0, w0, Int.add_zero]; exact a1
  · by_cases w1 : w = 1
    · rw [if_pos (Or.inr (Or.inl w1)), if_neg w0, if_pos w1, w1]; exact a2
    · by_cases w2 : w = 2
      · rw [if_pos (Or.inr (Or.inr (Or.inl w2))), if_neg w0, if_neg w1, if_pos w2, w2]; exact a3
      · by_cases w3 : w = 3
        · rw [if_pos (Or.inr (Or.inr (Or.inr w3))), if_neg w0, if_neg w1, if_neg w2, if_pos w3, w3]; exact a4
        · rw [if_neg (by omega), if_neg w0, if_neg w1, if_neg w2, if_neg w3]
theorem lc_step {M : Mm} {n c : Nat} (h : SR M n c) {x w : Int} (hx : inR x) (hw : inR w) : Cm mX8_step [vR 0, vI x, vI w] M (fun r M1 => Cs mX9_step [vI x, vI w] c r M1) := by
  obtain ⟨A, r, hA, hP, -⟩ := h.run
  refine cm_mono (c_step hx hw M h.1 hA) ?_
  rintro r1 M1 ⟨hM, h1⟩
  subst hM
  refine ⟨by rcases h1 with ⟨-, e⟩ | ⟨k, -, -, e⟩ <;> exact ⟨_, e⟩, cm_mono (k_step hx hw M1 h.2.1 hP) ?_⟩
  rintro r2 M2 ⟨hq, h2⟩
  refine ⟨?_, n, h.askq h.1 (fun _ _ => rfl) hq⟩
  rcases h1 with ⟨h1, rfl⟩ | ⟨k, rfl, h1, rfl⟩
  · rcases h2 with ⟨-, rfl⟩ | ⟨k, rfl, h2, -⟩
    · rfl
    · omega
  · rcases h2 with ⟨h2, -⟩ | ⟨k', e, h2, rfl⟩
    · omega
    · have : k = k' := by omega
      subst this
      rw [step_eq h.2.2 A h1]
theorem nlp_eq {kf kf' : Int → Int} : ∀ n : Nat, (∀ j : Nat, j < n → kf' j = kf j) → nlp kf' n = nlp kf n := by
  intro n
  induction n with
  | zero => intro _; rfl
  | succ n ih =>
    intro h
    simp only [nlp]
    rw [ih (fun j hj => h j (by omega)), h n (by omega)]
theorem count_eq {M : Mm} {n c : Nat} (h : SR M n c) (A : Nat → PS) {r : Int} (hr : 0 < n → M 14 5 = r ∧ (0 ≤ r ∧ r ≤ 240)) (w : Int) : kCt M n A r (M 39) w = cntV M n A w := by
  have hk : ∀ j : Nat, j < n → mK (M 57) j = M 10 j := fun j hj => (h.2.2.st j hj).1
  have e1 : nlp (mK (M 57)) n = nlp (M 10) n := nlp_eq n hk
  have e4 : sumS (idleV (mK (M 57)) A) n = sumS (idleV (M 10) A) n := sumS_cg n (fun i hi => idle_eq (hk i hi))
  have e2 : (if n = 0 then 0 else r) = M 14 5 := by
    by_cases h0 : n = 0
    · rw [if_pos h0, h.1.r0 h0]
    · rw [if_neg h0, (hr (by omega)).1]
  unfold kCt cntV
  rw [e1, e2, e4, h.2.2.sn, h.2.2.pg, h.2.2.rd]
theorem lc_count {M : Mm} {n c : Nat} (h : SR M n c) {x : Int} (hx : inR x) : Cm mX8_count [vR 0, vI x] M (fun r M1 => Cs mX9_count [vI x] c r M1) := by
  obtain ⟨A, r, hA, hP, hr⟩ := h.run
  refine cm_mono (c_count hx M h.1 hA) ?_
  rintro r1 M1 ⟨rfl, hp⟩
  have hz : rkH M1 (M 39) := fun kd a b => by rw [hp.1 64 (by decide)]; exact h.rkH kd a b
  refine ⟨⟨_, rfl⟩, cm_mono (k_count hx M1 (h.2.1.hi (fun q hq => hp.1 q (by omega))) (A := A) (r := r) (fun z => by rw [mPr, hp.1 57 (by decide)]; exact hP z) hz) ?_⟩
  rintro r2 M2 ⟨rfl, hq⟩
  refine ⟨?_, n, h.askq (hp.ci h.1) (fun q hq => hp.1 q (by omega)) hq⟩
  have e : kCt M1 n A r (M 39) x = kCt M n A r (M 39) x := by unfold kCt; rw [hp.1 57 (by decide), hp.1 54 (by decide)]
  rw [e, count_eq h A hr]
theorem dg1_cg {g g' : Int → Int} : ∀ (n : Nat) (z : Int), (∀ i : Nat, i < n → g' i = g i) → dg1 g' n z = dg1 g n z := by
  intro n
  induction n with
  | zero => intro z _; rfl
  | succ n ih =>
    intro z h
    simp only [dg1]
    rw [ih z (fun i hi => h i (by omega)), h n (by omega)]
theorem dgM_eq {M : Mm} {n c : Nat} (h : SL M n c) (A : Nat → PS) : ∀ (i : Nat) (z : Int), i ≤ n → dgMt M A i z = dgSt M A i z := by
  intro i
  induction i with
  | zero => intro z _; rfl
  | succ i ih =>
    intro z hi
    simp only [dgMt, dgSt]
    rw [ih z (by omega), dg1_cg 9 _ (fun w _ => step_eq h A (by omega) w)]
theorem dgR_eq {M : Mm} {n c : Nat} (h : SL M n c) (z : Int) : dg1 (M 64) 15 z = dgRk M 5 z := by
  have e : ∀ (k q : Nat), k < 5 → q < 3 → M 64 ((3 * k + q : Nat) : Int) = rkV M k q := by
    intro k q hk hq
    have := h.rk (k : Int) (q : Int) (by omega) (by omega) (by omega) (by omega)
    rw [← this]
    congr 1
  have e00 := e 0 0 (by omega) (by omega)
  have e01 := e 0 1 (by omega) (by omega)
  have e02 := e 0 2 (by omega) (by omega)
  have e10 := e 1 0 (by omega) (by omega)
  have e11 := e 1 1 (by omega) (by omega)
  have e12 := e 1 2 (by omega) (by omega)
  have e20 := e 2 0 (by omega) (by omega)
  have e21 := e 2 1 (by omega) (by omega)
  have e22 := e 2 2 (by omega) (by omega)
  have e30 := e 3 0 (by omega) (by omega)
  have e31 := e 3 1 (by omega) (by omega)
  have e32 := e 3 2 (by omega) (by omega)
  have e40 := e 4 0 (by omega) (by omega)
  have e41 := e 4 1 (by omega) (by omega)
  have e42 := e 4 2 (by omega) (by omega)
  simp only [dg1, dgRk]
  rw [← e00, ← e01, ← e02, ← e10, ← e11, ← e12, ← e20, ← e21, ← e22, ← e30, ← e31, ← e32, ← e40, ← e41, ← e42]
theorem digest_eq {M : Mm} {n c : Nat} (h : SR M n c) (A : Nat → PS) {r : Int} (hr : 0 < n → M 14 5 = r ∧ (0 ≤ r ∧ r ≤ 240)) : kDg M n A r (M 39) = dgV M n A := by
  unfold kDg dgV
  rw [dgR_eq h.2.2, dgM_eq h.2.2 A n _ (Nat.le_refl n), h.2.2.pg]
  have hp := h.1.pg0
  rw [dg1_cg (g := M 2) (g' := M 55) (M 1 1).toNat _ (fun i hi => h.2.2.pl i (by omega)), dg1_cg 10 _ (fun w _ => count_eq h A hr w)]
theorem lc_digest {M : Mm} {n c : Nat} (h : SR M n c) : Cm mX8_digest [vR 0] M (fun r M1 => CsL mX9_digest [] c r M1) := by
  obtain ⟨A, r, hA, hP, hr⟩ := h.run
  refine cm_mono (c_digest M h.1 hA) ?_
  rintro r1 M1 ⟨rfl, hp⟩
  have hz : rkH M1 (M 39) := fun kd a b => by rw [hp.1 64 (by decide)]; exact h.rkH kd a b
  refine ⟨⟨_, rfl⟩, cm_mono (k_digest M1 (h.2.1.hi (fun q hq => hp.1 q (by omega))) (A := A) (r := r) (fun z => by rw [mPr, hp.1 57 (by decide)]; exact hP z) (fun z => (hr z).2) hz) ?_⟩
  rintro r2 M2 ⟨rfl, hq, hk⟩
  refine ⟨?_, n, h.ask (hp.ci h.1) (fun q hq => hp.1 q (by omega)) hk (fun q a => hq.2 q (by omega) (by omega) (by omega) (by omega) (by omega) (by omega)) (fun j hj => hq.1 j (by omega) (by omega) (by omega)) (fun q a => hq.2 q (by omega) (by omega) (by omega) (by omega) (by omega) (by omega))⟩
  have em : ∀ k w, mstp M1 A k w = mstp M A k w := fun k w => by unfold mstp mso; rw [hp.1 57 (by decide), hp.1 54 (by decide), hp.1 65 (by decide)]
  have ed : ∀ (i : Nat) (z : Int), dgMt M1 A i z = dgMt M A i z := by
    intro i
    induction i with
    | zero => intro z; rfl
    | succ i ih => intro z; simp only [dgMt]; rw [ih, dg1_cg 9 _ (fun w _ => em i w)]
  have ec : ∀ w, kCt M1 n A r (M 39) w = kCt M n A r (M 39) w := fun w => by unfold kCt; rw [hp.1 57 (by decide), hp.1 54 (by decide)]
  have e : kDg M1 n A r (M 39) = kDg M n A r (M 39) := by
    unfold kDg
    rw [ed, hp.1 64 (by decide), hp.1 55 (by decide), hp.1 54 (by decide), dg1_cg 10 _ (fun w _ => ec w)]
  rw [e, digest_eq h A hr]
theorem lc_racked {M : Mm} {n c : Nat} (h : SR M n c) {x y : Int} (hx : inR x) (hy : inR y) : Cm mX8_racked [vR 0, vI x, vI y] M (fun r M1 => Cs mX9_racked [vI x, vI y] c r M1) := by
  refine cm_mono (c_racked hx hy M h.1) ?_
  rintro r M1 ⟨rfl, rfl⟩
  refine ⟨⟨_, rfl⟩, cm_mono (k_racked hx hy _) ?_⟩
  rintro r M2 ⟨rfl, rfl⟩
  refine ⟨?_, n, h.askq h.1 (fun _ _ => rfl) (Kq.rf h.2.1)⟩
  by_cases hg : x < 0 ∨ 5 ≤ x ∨ y < 0 ∨ 3 ≤ y
  · rw [if_pos hg, if_pos hg]
  · rw [if_neg hg, if_neg hg, h.2.2.rk x y (by omega) (by omega) (by omega) (by omega)]
    rfl
