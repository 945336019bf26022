/-! ===== counting: points by pairs are the points of the set ===== -/
theorem has_ok {f : Int → Int} (hf : TC f) (hd : dg16 f) {x y z : Int} (hx : -8 ≤ x ∧ x ≤ 8) (hy : -8 ≤ y ∧ y ≤ 8) (hz : -8 ≤ z ∧ z ≤ 8) : byB f (ptN x y z) ↔ pairP f x y ∧ z ≤ roomF f 4 x y ∧ -z ≤ roomF f 5 x y := by
  obtain ⟨h1, h2, h3, h4⟩ := ptN_ok hx hy hz
  have g0 := pv_sgn (ptN x y z) 0 (by omega)
  have g2 := pv_sgn (ptN x y z) 2 (by omega)
  have g4 := pv_sgn (ptN x y z) 4 (by omega)
  rw [nx_0, h2] at g0
  rw [nx_2, h3] at g2
  rw [nx_4, h4] at g4
  generalize ptN x y z = p at *
  have t4 : (mt f 4 4).tdiv 2 * 2 = mt f 4 4 := by
    have := hf.2.2.2.1 4 (by omega)
    exact Int.tdiv_mul_cancel (Int.dvd_of_emod_eq_zero this)
  have t5 : (mt f 5 5).tdiv 2 * 2 = mt f 5 5 := by
    have := hf.2.2.2.1 5 (by omega)
    exact Int.tdiv_mul_cancel (Int.dvd_of_emod_eq_zero this)
  have y10 := hf.1 1 0 (by omega) (by omega)
  have y20 := hf.1 2 0 (by omega) (by omega)
  have y21 := hf.1 2 1 (by omega) (by omega)
  have y30 := hf.1 3 0 (by omega) (by omega)
  have y31 := hf.1 3 1 (by omega) (by omega)
  have y32 := hf.1 3 2 (by omega) (by omega)
  have y40 := hf.1 4 0 (by omega) (by omega)
  have y41 := hf.1 4 1 (by omega) (by omega)
  have y42 := hf.1 4 2 (by omega) (by omega)
  have y43 := hf.1 4 3 (by omega) (by omega)
  have y50 := hf.1 5 0 (by omega) (by omega)
  have y51 := hf.1 5 1 (by omega) (by omega)
  have y52 := hf.1 5 2 (by omega) (by omega)
  have y53 := hf.1 5 3 (by omega) (by omega)
  have y54 := hf.1 5 4 (by omega) (by omega)
  have z0 := hf.2.2.1 0 (by omega)
  rw [nx_0] at z0
  have z2 := hf.2.2.1 2 (by omega)
  rw [nx_2] at z2
  have z4 := hf.2.2.1 4 (by omega)
  rw [nx_4] at z4
  unfold roomF pairP
  generalize (mt f 4 4).tdiv 2 = d4 at *
  generalize (mt f 5 5).tdiv 2 = d5 at *
  simp only [mt, Int.reduceMul, Int.reduceAdd] at *
  constructor
  · rintro ⟨-, hs⟩
    have s00 := hs 0 0 (by omega) (by omega)
    have s01 := hs 0 1 (by omega) (by omega)
    have s02 := hs 0 2 (by omega) (by omega)
    have s03 := hs 0 3 (by omega) (by omega)
    have s04 := hs 0 4 (by omega) (by omega)
    have s05 := hs 0 5 (by omega) (by omega)
    have s11 := hs 1 1 (by omega) (by omega)
    have s12 := hs 1 2 (by omega) (by omega)
    have s13 := hs 1 3 (by omega) (by omega)
    have s14 := hs 1 4 (by omega) (by omega)
    have s15 := hs 1 5 (by omega) (by omega)
    have s22 := hs 2 2 (by omega) (by omega)
    have s23 := hs 2 3 (by omega) (by omega)
    have s24 := hs 2 4 (by omega) (by omega)
    have s25 := hs 2 5 (by omega) (by omega)
    have s33 := hs 3 3 (by omega) (by omega)
    have s34 := hs 3 4 (by omega) (by omega)
    have s35 := hs 3 5 (by omega) (by omega)
    have s44 := hs 4 4 (by omega) (by omega)
    have s45 := hs 4 5 (by omega) (by omega)
    have s55 := hs 5 5 (by omega) (by omega)
    simp only [mt, Int.reduceMul, Int.reduceAdd, h2, h3, h4, g0, g2, g4] at s00 s01 s02 s03 s04 s05 s11 s12 s13 s14 s15 s22 s23 s24 s25 s33 s34 s35 s44 s45 s55
    refine ⟨⟨by omega, by omega, by omega, by omega, by omega, by omega, by omega, by omega⟩, by omega, by omega⟩
  · rintro ⟨⟨q1, q2, q3, q4, q5, q6, q7, q8⟩, q9, q10⟩
    refine ⟨h1, ?_⟩
    intro a b ha hb
    rcases lit_cases ha with rfl | rfl | rfl | rfl | rfl | rfl <;> rcases lit_cases hb with rfl | rfl | rfl | rfl | rfl | rfl <;> simp only [mt, Int.reduceMul, Int.reduceAdd, h2, h3, h4, g0, g2, g4] <;> omega
theorem sumS_cg {f g : Int → Int} : ∀ n : Nat, (∀ i : Nat, i < n → f i = g i) → sumS f n = sumS g n := by
  intro n
  induction n with
  | zero => intro _; rfl
  | succ n ih => intro h; simp only [sumS]; rw [ih (fun i hi => h i (by omega)), h n (by omega)]
theorem sumS_add (f : Int → Int) (a : Nat) : ∀ b : Nat, sumS f (a + b) = sumS f a + sumS (fun j => f (a + j)) b := by
  intro b
  induction b with
  | zero => simp [sumS]
  | succ b ih =>
    rw [← Nat.add_assoc]
    simp only [sumS]
    rw [ih, Int.natCast_add]
    omega
theorem sumS_mul (f : Int → Int) (k : Nat) : ∀ m : Nat, sumS f (m * k) = sumS (fun i => sumS (fun j => f (i * k + j)) k) m := by
  intro m
  induction m with
  | zero => simp [sumS]
  | succ m ih =>
    rw [Nat.succ_mul, sumS_add, ih]
    simp only [sumS, Int.natCast_mul]
noncomputable def crd (S : PS) : Int := sumS (ind S) 4913
theorem cpI_sum (f : Int → Int) (x : Int) : ∀ k : Nat, cpI f x k = sumS (fun j => cpT f x (-8 + j)) k := by
  intro k
  induction k with
  | zero => rfl
  | succ k ih => simp only [cpI, sumS]; rw [ih]
theorem cpO_sum (f : Int → Int) : ∀ k : Nat, cpO f k = sumS (fun j => cpI f (-8 + j) 17) k := by
  intro k
  induction k with
  | zero => rfl
  | succ k ih => simp only [cpO, sumS]; rw [ih]
theorem row_sum {A B : Int} (hA : A ≤ 8) (hB : B ≤ 8) : ∀ n : Nat, n ≤ 17 → sumS (fun k => if (-8 + k ≤ A ∧ -(-8 + k) ≤ B) then 1 else 0) n = max 0 (min A ((n : Int) - 9) + B + 1) := by
  intro n
  induction n with
  | zero => intro _; simp only [sumS]; omega
  | succ n ih =>
    intro hn
    simp only [sumS]
    rw [ih (by omega)]
    split <;> omega
theorem crd_by {f : Int → Int} (hf : TC f) (hd : dg16 f) : crd (byB f) = cpO f 17 := by
  unfold crd
  rw [show (4913 : Nat) = 17 * 289 from rfl, sumS_mul, cpO_sum]
  refine sumS_cg 17 (fun i hi => ?_)
  rw [cpI_sum, show (289 : Nat) = 17 * 17 from rfl, sumS_mul]
  refine sumS_cg 17 (fun j hj => ?_)
  have e : ∀ k : Nat, k < 17 → ((i : Int) * ((17 * 17 : Nat) : Int) + ((j : Int) * ((17 : Nat) : Int) + (k : Int))) = ptN (-8 + i) (-8 + j) (-8 + k) := by
    intro k hk
    unfold ptN
    omega
  have r4 : roomF f 4 (-8 + i) (-8 + j) ≤ 8 := by
    have := hd 4 (by omega)
    have t4 : (mt f 4 4).tdiv 2 * 2 = mt f 4 4 := Int.tdiv_mul_cancel (Int.dvd_of_emod_eq_zero (hf.2.2.2.1 4 (by omega)))
    unfold roomF
    omega
  have r5 : roomF f 5 (-8 + i) (-8 + j) ≤ 8 := by
    have := hd 5 (by omega)
    have t5 : (mt f 5 5).tdiv 2 * 2 = mt f 5 5 := Int.tdiv_mul_cancel (Int.dvd_of_emod_eq_zero (hf.2.2.2.1 5 (by omega)))
    unfold roomF
    omega
  by_cases hp : pairP f (-8 + i) (-8 + j)
  · have h1 := row_sum r4 r5 17 (by omega)
    unfold cpT
    rw [if_pos hp]
    rw [show max 0 (roomF f 4 (-8 + i) (-8 + j) + roomF f 5 (-8 + i) (-8 + j) + 1) = max 0 (min (roomF f 4 (-8 + i) (-8 + j)) (((17 : Nat) : Int) - 9) + roomF f 5 (-8 + i) (-8 + j) + 1) by omega, ← h1]
    refine sumS_cg 17 (fun k hk => ?_)
    rw [e k hk]
    have := has_ok hf hd (x := -8 + i) (y := -8 + j) (z := -8 + k) (by omega) (by omega) (by omega)
    split
    · rename_i hq
      exact ind_1 (this.mpr ⟨hp, hq⟩)
    · rename_i hq
      exact ind_0 (fun z => hq (this.mp z).2)
  · unfold cpT
    rw [if_neg hp]
    have : sumS (fun _ => (0 : Int)) 17 = 0 := by decide
    rw [← this]
    refine sumS_cg 17 (fun k hk => ?_)
    rw [e k hk]
    have := has_ok hf hd (x := -8 + i) (y := -8 + j) (z := -8 + k) (by omega) (by omega) (by omega)
    exact ind_0 (fun z => hp (this.mp z).1)
theorem sumS_0 {f : Int → Int} : ∀ n : Nat, (∀ i : Nat, i < n → f i = 0) → sumS f n = 0 := by
  intro n
  induction n with
  | zero => intro _; rfl
  | succ n ih => intro h; simp only [sumS]; rw [ih (fun i hi => h i (by omega)), h n (by omega)]; rfl
theorem sumS_rng {f : Int → Int} : ∀ n : Nat, (∀ i : Nat, i < n → f i = 0 ∨ f i = 1) → 0 ≤ sumS f n ∧ sumS f n ≤ n := by
  intro n
  induction n with
  | zero => intro _; simp [sumS]
  | succ n ih => intro h; simp only [sumS]; have := ih (fun i hi => h i (by omega)); have := h n (by omega); omega
theorem ind_01 (S : PS) (p : Int) : ind S p = 0 ∨ ind S p = 1 := by
  by_cases h : S p
  · exact Or.inr (ind_1 h)
  · exact Or.inl (ind_0 h)
theorem ind_iff (S : PS) (p : Int) : ind S p = 1 ↔ S p := by
  by_cases h : S p
  · rw [ind_1 h]; exact ⟨fun _ => h, fun _ => rfl⟩
  · rw [ind_0 h]; exact ⟨fun z => by omega, fun z => absurd z h⟩
theorem crd_rng (S : PS) : 0 ≤ crd S ∧ crd S ≤ 4913 := sumS_rng 4913 (fun i _ => ind_01 S i)
theorem sumS_pos {f : Int → Int} : ∀ n : Nat, (∀ i : Nat, i < n → f i = 0 ∨ f i = 1) → (sumS f n = 0 ↔ ∀ i : Nat, i < n → f i = 0) := by
  intro n
  induction n with
  | zero => intro _; simp [sumS]
  | succ n ih =>
    intro h
    simp only [sumS]
    have h1 := ih (fun i hi => h i (by omega))
    have h2 := h n (by omega)
    have h3 := sumS_rng (f := f) n (fun i hi => h i (by omega))
    constructor
    · intro h4 i hi
      by_cases hin : i = n
      · subst hin; omega
      · exact h1.mp (by omega) i (by omega)
    · intro h4
      rw [h1.mpr (fun i hi => h4 i (by omega)), h4 n (by omega)]; rfl
theorem crd_0 {S : PS} (hin : ∀ p, S p → inP p) : crd S = 0 ↔ ∀ p, ¬ S p := by
  unfold crd
  rw [sumS_pos 4913 (fun i _ => ind_01 S i)]
  constructor
  · intro h p hp
    have h1 := hin p hp
    have h2 := h p.toNat (by omega)
    rw [Int.toNat_of_nonneg h1.1, ind_1 hp] at h2
    omega
  · intro h i _
    exact ind_0 (h i)
theorem Rp.cnt {M : Mm} {c : Nat} {S : PS} (h : Rp M c S) : cntF M c = crd S := by
  obtain ⟨-, hq⟩ := id h
  unfold cntF
  rcases hq with ⟨h1, h2⟩ | ⟨h1, h2, h3, h4⟩
  · rw [if_neg (by omega)]
    exact ((crd_0 (fun p hp => absurd hp (h2 p))).mpr h2).symm
  · rw [if_pos h1, ← crd_by h2 h3]
    congr 1
    exact funext fun p => propext (h4 p).symm
theorem Rp.has {M : Mm} {c : Nat} {S : PS} (h : Rp M c S) {x y z : Int} (hx : -8 ≤ x ∧ x ≤ 8) (hy : -8 ≤ y ∧ y ≤ 8) (hz : -8 ≤ z ∧ z ≤ 8) : hasP M c x y z ↔ S (ptN x y z) := by
  obtain ⟨-, hq⟩ := id h
  unfold hasP
  rcases hq with ⟨h1, h2⟩ | ⟨h1, h2, h3, h4⟩
  · exact ⟨fun q => by have := q.1; omega, fun q => absurd q (h2 _)⟩
  · rw [h4, has_ok h2 h3 hx hy hz]
    exact ⟨fun q => q.2, fun q => ⟨h1, q⟩⟩
theorem Rp.bn {M : Mm} {c : Nat} {S : PS} (h : Rp M c S) (h0 : M c 1 = 0) {j : Int} (h1 : 0 ≤ j) (h2 : j < 36) : M (c + 1) j = bnF S j := by
  obtain ⟨-, hq⟩ := id h
  rcases hq with ⟨q1, q2⟩ | ⟨q1, q2, q3, q4⟩
  · omega
  · rw [← bnF_tc q2 q3 h1 h2]
    congr 1
    exact funext fun p => propext (q4 p).symm
