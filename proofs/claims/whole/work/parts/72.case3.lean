/-! ===== calls that change the steps ===== -/
theorem SR.mono {M : Mm} {n c c' : Nat} (h : SR M n c) (hc : c ≤ c') : SR M n c' := ⟨h.1, h.2.1, h.2.2.cg hc (fun _ _ => rfl) (fun _ _ => rfl) (fun _ _ => rfl)⟩
theorem ln_z {kd z w : Int} (h : w = nmV kd z) (hk : kd = 0 ∨ kd = 1 ∨ kd = 3) : w - 100 = z := by
  rw [h]
  unfold nmV
  rw [if_pos hk]
  omega
theorem ln_st {M : Mm} {n : Nat} (h : lnS M 10 57 n) {j : Nat} (hj : j < n) (q : stOK (M 10 j) (M 11 j) (M 12 j) (M 13 j)) : stOK (mK (M 57) j) (mA (M 57) j) (mB (M 57) j) (mZ (M 57) j) := by
  obtain ⟨a1, a2, a3, a4⟩ := h j hj
  have e1 : mK (M 57) j = M 10 j := a1
  have e2 : mA (M 57) j = M 11 j := a2
  have e3 : mB (M 57) j = M 12 j := a3
  rw [e1, e2, e3]
  have e4 : (M 10 j = 0 ∨ M 10 j = 1 ∨ M 10 j = 3) → mZ (M 57) j = M 13 j := fun k => ln_z a4 k
  unfold stOK at *
  rcases q with q | q | q | q
  · rw [e4 (by omega)]; exact Or.inl q
  · rw [e4 (by omega)]; exact Or.inr (Or.inl q)
  · exact Or.inr (Or.inr (Or.inl q))
  · rw [e4 (by omega)]; exact Or.inr (Or.inr (Or.inr q))
theorem ln_ok {M : Mm} {n : Nat} (h : lnS M 10 57 n) (ho : prOK (M 10) (M 11) (M 12) (M 13) n) : prOK (mK (M 57)) (mA (M 57)) (mB (M 57)) (mZ (M 57)) n := by
  intro i hi
  rcases ho i hi with q | ⟨q1, t, q2, q3, q4⟩
  · exact Or.inl (ln_st h hi q)
  · obtain ⟨a1, a2, -⟩ := h i hi
    refine Or.inr ⟨by show M 57 (4 * (i : Int)) = 4; rw [a1]; exact q1, t, q2, by show M 57 (4 * (i : Int) + 1) = t; rw [a2]; exact q3, fun j j1 j2 => ln_st h (by omega) (q4 j j1 j2)⟩
theorem ln_bd {M : Mm} {n : Nat} (h6 : n ≤ 6) (h : lnS M 10 57 n) (hb : cBd M 9) (ho : prOK (M 10) (M 11) (M 12) (M 13) n) : ∀ j, 0 ≤ j → j < 4 * (n : Int) → -1000 ≤ M 57 j ∧ M 57 j ≤ 1000 := by
  intro j j1 j2
  obtain ⟨k, hk⟩ := Int.eq_ofNat_of_zero_le (show 0 ≤ j / 4 by omega)
  have hkn : k < n := by omega
  obtain ⟨a1, a2, a3, a4⟩ := h k hkn
  have hbk := hb k (by omega) (by omega)
  simp only [Nat.reduceAdd] at hbk
  have hc : j = 4 * (k : Int) ∨ j = 4 * (k : Int) + 1 ∨ j = 4 * (k : Int) + 2 ∨ j = 4 * (k : Int) + 3 := by omega
  rcases hc with e | e | e | e
  · rw [e, a1]; exact hbk.1
  · rw [e, a2]; exact hbk.2.1
  · rw [e, a3]; exact hbk.2.2.1
  · rw [e, a4]
    unfold nmV
    by_cases q : M 10 k = 0 ∨ M 10 k = 1 ∨ M 10 k = 3
    · rw [if_pos q]
      show -1000 ≤ M 13 k + 100 ∧ M 13 k + 100 ≤ 1000
      rcases ho k hkn with y | y
      · unfold stOK at y; omega
      · omega
    · rw [if_neg q]; omega
/-- steps stand anew: both beside each other -/
theorem SR.new {M1 X : Mm} {m c : Nat} (hC : CI M1 m) (h39 : ∀ j, 0 ≤ j → j < 5 → M1 39 j = 0) (lo : ∀ q, q < 54 → X q = M1 q) (sz : X 54 8 = m) (st : lnS X 10 57 m) (pg : X 54 1 = X 1 1) (pl : ∀ j : Nat, (j : Int) < X 1 1 → X 55 j = X 2 j) (sn : X 54 20 = X 40 2) (ss : lnV X 41 65 (X 40 2).toNat) (snb : mSn X) (sg : sgA X) (rd : X 54 9 = X 0 11) (kp : X 0 10 = 1 ↔ X 54 23 = X 54 9) (kp2 : -1 ≤ X 54 23 ∧ X 54 23 ≤ X 54 9) (ks : X 0 10 = 1 → X 54 24 = X 43 4 ∧ X 54 25 = X 48 2 ∧ lnS X 44 66 (X 43 4).toNat ∧ lnV X 49 67 (X 48 2).toNat) (kv : ∀ j, 0 ≤ j → j < 6 → (-1000 ≤ X 67 (3 * j) ∧ X 67 (3 * j) ≤ 1000) ∧ (0 ≤ X 67 (3 * j + 1) ∧ X 67 (3 * j + 1) ≤ 3) ∧ (X 67 (3 * j + 2) = 0 ∨ X 67 (3 * j + 2) = 1)) (ct : X 0 11 ≤ c) : SR (chM X) m c := by
  have hCX : CI X m := hC.lo lo
  have c54 : ∀ j, j ≠ 11 → chM X 54 j = X 54 j := fun j hj => by unfold chM; rw [rwc_ne (by decide), upM_n (Or.inr hj)]
  have cq : ∀ q, (q ≠ 54 ∧ q ≠ 64) → chM X q = X q := fun q hq => by unfold chM; rw [rwc_ne hq.2, upM_o hq.1]
  have c11 : chM X 54 11 = 1 := by unfold chM; rw [rwc_ne (by decide), upM_s]
  have c64 : ∀ j, 0 ≤ j → j < 15 → chM X 64 j = -1 := fun j j1 j2 => by unfold chM; rw [rwc_at]; unfold fillS; rw [if_pos (by omega)]
  have x39 : ∀ j, 0 ≤ j → j < 5 → X 39 j = 0 := fun j j1 j2 => by rw [lo 39 (by decide)]; exact h39 j j1 j2
  have h6 := hCX.n6
  have hrd := hCX.rdg
  refine ⟨hCX.lo (fun q hq => cq q ⟨by omega, by omega⟩), ?_, ?_⟩
  · apply KI.mk
    case pg0 => rw [c54 1 (by decide), pg]; exact hCX.pg0
    case pg1 => rw [c54 1 (by decide), pg]; exact hCX.pg1
    case pgl =>
      rw [c54 1 (by decide), cq 55 (by decide), pg]
      intro j j1 j2
      obtain ⟨k, rfl⟩ := Int.eq_ofNat_of_zero_le j1
      rw [pl k j2]
      exact hCX.pgl k j1 j2
    case sz => rw [c54 8 (by decide)]; exact sz
    case n6 => exact h6
    case ok => rw [cq 57 (by decide)]; exact ln_ok st hCX.ok
    case bd => rw [cq 57 (by decide)]; exact ln_bd h6 st hCX.b9 hCX.ok
    case ol => exact Or.inr c11
    case fr => intro q; rw [c11] at q; omega
    case sg => intro p a; rw [cq 59 (by decide)]; exact sg p a
    case rkb => intro j j1 j2; rw [c64 j j1 j2]; omega
    case sn0 => rw [c54 20 (by decide), sn]; exact hCX.sn0
    case sn1 => rw [c54 20 (by decide), sn]; exact hCX.sn1
    case snb => rw [cq 65 (by decide)]; exact snb
    case pr => rw [c54 9 (by decide), rd]; exact hrd
    case kp => rw [c54 23 (by decide), c54 9 (by decide)]; exact kp2
  · apply SL.mk
    case pg => rw [c54 1 (by decide), cq 1 (by decide)]; exact pg
    case pl => rw [cq 1 (by decide), cq 2 (by decide), cq 55 (by decide)]; exact pl
    case st => unfold lnS; rw [cq 57 (by decide), cq 10 (by decide), cq (10 + 1) (by decide), cq (10 + 2) (by decide), cq (10 + 3) (by decide)]; exact st
    case rk =>
      intro kd q k1 k2 q1 q2
      unfold rkV
      rw [c64 _ (by omega) (by omega), cq 39 (by decide), x39 kd k1 k2, if_neg (by omega)]
    case rp =>
      intro kd q k1 k2 q1 q2
      rw [cq 39 (by decide), x39 kd k1 k2] at q2
      omega
    case sn => rw [c54 20 (by decide), cq 40 (by decide)]; exact sn
    case ss => unfold lnV; rw [cq 65 (by decide), cq 41 (by decide), cq (41 + 1) (by decide), cq 40 (by decide)]; exact ss
    case rd => rw [c54 9 (by decide), cq 0 (by decide)]; exact rd
    case kp => rw [c54 9 (by decide), c54 23 (by decide), cq 0 (by decide)]; exact kp
    case ks =>
      unfold lnS lnV
      rw [c54 24 (by decide), c54 25 (by decide), cq 0 (by decide), cq 43 (by decide), cq 44 (by decide), cq (44 + 1) (by decide), cq (44 + 2) (by decide), cq (44 + 3) (by decide), cq 48 (by decide), cq 49 (by decide), cq (49 + 1) (by decide), cq 66 (by decide), cq 67 (by decide)]
      exact ks
    case kv => rw [cq 67 (by decide)]; exact kv
    case ct => rw [cq 0 (by decide)]; exact ct
/-- the steps alone changed -/
theorem SR.chg {M M1 X : Mm} {n m c : Nat} (h : SR M n c) (hC : CI M1 m) (h39 : ∀ j, 0 ≤ j → j < 5 → M1 39 j = 0) (e1 : ∀ q, (q ≤ 2 ∨ q = 38 ∨ (40 ≤ q ∧ q ≤ 50) ∨ 54 ≤ q) → M1 q = M q) (e2 : ∀ q, (q ≠ 54 ∧ q ≠ 57) → X q = M1 q) (e3 : ∀ j, j ≠ 8 → X 54 j = M1 54 j) (sz : X 54 8 = m) (st : lnS X 10 57 m) : SR (chM X) m c := by
  have g : ∀ q, ((q ≤ 2 ∨ q = 38 ∨ (40 ≤ q ∧ q ≤ 50) ∨ 54 ≤ q) ∧ (q ≠ 54 ∧ q ≠ 57)) → X q = M q := fun q hq => by rw [e2 q hq.2, e1 q hq.1]
  have g4 : ∀ j, j ≠ 8 → X 54 j = M 54 j := fun j hj => by rw [e3 j hj, e1 54 (by decide)]
  have hL := h.2.2
  refine SR.new hC h39 (fun q hq => e2 q ⟨by omega, by omega⟩) sz st ?_ ?_ ?_ ?_ ?_ ?_ ?_ ?_ ?_ ?_ ?_ ?_
  · rw [g4 1 (by decide), g 1 (by decide)]; exact hL.pg
  · rw [g 1 (by decide), g 2 (by decide), g 55 (by decide)]; exact hL.pl
  · rw [g4 20 (by decide), g 40 (by decide)]; exact hL.sn
  · unfold lnV; rw [g 65 (by decide), g 41 (by decide), g (41 + 1) (by decide), g 40 (by decide)]; exact hL.ss
  · show ∀ j, 0 ≤ j → j < 6 → _; rw [g 65 (by decide)]; exact h.2.1.snb
  · intro p a; rw [g 59 (by decide)]; exact h.2.1.sg p a
  · rw [g4 9 (by decide), g 0 (by decide)]; exact hL.rd
  · rw [g4 9 (by decide), g4 23 (by decide), g 0 (by decide)]; exact hL.kp
  · rw [g4 9 (by decide), g4 23 (by decide)]; exact h.2.1.kp
  · unfold lnS lnV
    rw [g4 24 (by decide), g4 25 (by decide), g 0 (by decide), g 43 (by decide), g 44 (by decide), g (44 + 1) (by decide), g (44 + 2) (by decide), g (44 + 3) (by decide), g 48 (by decide), g 49 (by decide), g (49 + 1) (by decide), g 66 (by decide), g 67 (by decide)]
    exact hL.ks
  · rw [g 67 (by decide)]; exact hL.kv
  · rw [g 0 (by decide)]; exact hL.ct
theorem FrA.o {M M' : Mm} (h : FrA M M') {q : Nat} (hq : (q ≤ 13 ∨ q = 38 ∨ 40 ≤ q)) : M' q = M q := h.2 q (by omega) (by omega) (by omega) (by omega)
theorem pu4_at {g : Int → Int} {p kd a b z : Int} {j : Int} : pu4 g p kd a b z (4 * j) = (if j = p then kd else g (4 * j)) ∧ pu4 g p kd a b z (4 * j + 1) = (if j = p then a else g (4 * j + 1)) ∧ pu4 g p kd a b z (4 * j + 2) = (if j = p then b else g (4 * j + 2)) ∧ pu4 g p kd a b z (4 * j + 3) = (if j = p then z else g (4 * j + 3)) := by
  unfold pu4
  by_cases e : j = p
  · subst e
    rw [if_pos rfl, if_pos rfl, if_pos rfl, if_pos rfl]
    refine ⟨?_, ?_, ?_, ?_⟩
    · rw [up1_n (by omega), up1_n (by omega), up1_n (by omega), up1_s]
    · rw [up1_n (by omega), up1_n (by omega), up1_s]
    · rw [up1_n (by omega), up1_s]
    · rw [up1_s]
  · rw [if_neg e, if_neg e, if_neg e, if_neg e]
    refine ⟨?_, ?_, ?_, ?_⟩ <;> rw [up1_n (by omega), up1_n (by omega), up1_n (by omega), up1_n (by omega)]
theorem gU_at {f : Int → Int} {p n j : Int} : (j ≤ p → gU f p p n (4 * j) = f (4 * j) ∧ gU f p p n (4 * j + 1) = f (4 * j + 1) ∧ gU f p p n (4 * j + 2) = f (4 * j + 2) ∧ gU f p p n (4 * j + 3) = f (4 * j + 3)) ∧ (p < j → j ≤ n → gU f p p n (4 * j) = f (4 * (j - 1)) ∧ gU f p p n (4 * j + 1) = f (4 * (j - 1) + 1) + bmp (mK f) (mA f) p (j - 1) ∧ gU f p p n (4 * j + 2) = f (4 * (j - 1) + 2) ∧ gU f p p n (4 * j + 3) = f (4 * (j - 1) + 3)) := by
  unfold gU
  constructor
  · intro h
    rw [if_neg (by omega), if_neg (by omega), if_neg (by omega), if_neg (by omega)]
    exact ⟨rfl, rfl, rfl, rfl⟩
  · intro h h2
    have q1 : (4 * j + 1) / 4 - 1 = j - 1 := by omega
    refine ⟨?_, ?_, ?_, ?_⟩
    · rw [if_pos (by omega), if_neg (by omega), Int.add_zero]
      exact congrArg f (by omega)
    · rw [if_pos (by omega), if_pos (by omega), q1]
      exact congrArg (fun t => f t + _) (by omega)
    · rw [if_pos (by omega), if_neg (by omega), Int.add_zero]
      exact congrArg f (by omega)
    · rw [if_pos (by omega), if_neg (by omega), Int.add_zero]
      exact congrArg f (by omega)
theorem bmp_cg {kf f kf' f' : Int → Int} {p j : Int} (h1 : kf' j = kf j) (h2 : f' j = f j) : bmp kf' f' p j = bmp kf f p j := by unfold bmp; rw [h1, h2]
theorem put_ln {M : Mm} {n p : Nat} (hL : lnS M 10 57 n) (hp : p ≤ n) {kd a b z : Int} (hP : putP kd a b z) : ∀ j : Nat, j < n + 1 → pu4 (gU (M 57) p p n) p kd a (putB kd b) (putN kd z) (4 * (j : Int)) = up1 (upK (M 10) p n) p kd j ∧ pu4 (gU (M 57) p p n) p kd a (putB kd b) (putN kd z) (4 * (j : Int) + 1) = up1 (upF (M 10) (M 11) p p n) p a j ∧ pu4 (gU (M 57) p p n) p kd a (putB kd b) (putN kd z) (4 * (j : Int) + 2) = up1 (upK (M 12) p n) p (putB kd b) j ∧ pu4 (gU (M 57) p p n) p kd a (putB kd b) (putN kd z) (4 * (j : Int) + 3) = nmV (up1 (upK (M 10) p n) p kd j) (up1 (upK (M 13) p n) p (putZ kd z) j) := by
  intro j hj
  obtain ⟨u1, u2, u3, u4⟩ := pu4_at (g := gU (M 57) p p n) (p := p) (kd := kd) (a := a) (b := putB kd b) (z := putN kd z) (j := j)
  rw [u1, u2, u3, u4]
  by_cases e : (j : Int) = p
  · rw [if_pos e, if_pos e, if_pos e, if_pos e, e, up1_s, up1_s, up1_s, up1_s]
    refine ⟨rfl, rfl, rfl, ?_⟩
    have hk : kd = 0 ∨ kd = 1 ∨ kd = 2 ∨ kd = 3 := by have := hP.1; omega
    rcases hk with rfl | rfl | rfl | rfl <;> simp [putN, nmV, putZ] <;> omega
  · rw [if_neg e, if_neg e, if_neg e, if_neg e, up1_n e, up1_n e, up1_n e, up1_n e]
    obtain ⟨g1, g2⟩ := gU_at (f := M 57) (p := p) (n := n) (j := j)
    by_cases c : (j : Int) ≤ p
    · obtain ⟨v1, v2, v3, v4⟩ := g1 c
      rw [v1, v2, v3, v4, upK_lo c, upK_lo c, upK_lo c, upF_lo c]
      exact hL j (by omega)
    · obtain ⟨v1, v2, v3, v4⟩ := g2 (by omega) (by omega)
      rw [v1, v2, v3, v4, upK_hi (by omega) (by omega), upK_hi (by omega) (by omega), upK_hi (by omega) (by omega), upF_hi (by omega) (by omega)]
      obtain ⟨i, hi⟩ := Int.eq_ofNat_of_zero_le (show 0 ≤ (j : Int) - 1 by omega)
      rw [hi]
      obtain ⟨w1, w2, w3, w4⟩ := hL i (by omega)
      refine ⟨w1, ?_, w3, w4⟩
      rw [w2, bmp_cg (kf := M 10) (f := M 11) (kf' := mK (M 57)) (f' := mA (M 57)) w1 w2]
theorem lc_put {M : Mm} {n c : Nat} (h : SR M n c) {x kd a b z : Int} (hx : inR x) (h1 : inR kd) (h2 : inR a) (h3 : inR b) (h4 : inR z) : Cm mX8_put [vR 0, vI x, vI kd, vI a, vI b, vI z] M (fun r M1 => Cs mX9_put [vI x, vI kd, vI a, vI b, vI z] c r M1) := by
  have h6 := h.1.n6
  refine cm_mono (c_put hx h1 h2 h3 h4 M h.1) ?_
  rintro r M1 (⟨q1, rfl, rfl⟩ | ⟨q1, q2, rfl, rfl⟩ | ⟨q1, q2, q3, rfl, rfl⟩ | ⟨q1, q2, q3, rfl, rfl⟩ | ⟨p, rfl, q1, q2, q3, q4, rfl, hC, h39, hF⟩)
  · refine ⟨⟨_, rfl⟩, cm_mono (k_put hx h1 h2 h3 h4 _ h.2.1) ?_⟩
    rintro r M2 (⟨g1, rfl, rfl⟩ | ⟨g1, g2, rfl, rfl⟩ | ⟨g1, g2, g3, rfl, rfl⟩ | ⟨g1, g2, g3, rfl, rfl⟩ | ⟨p, rfl, g1, g2, g3, g4, rfl, -⟩) <;> first | exact ⟨rfl, n, h.same⟩ | (exfalso; omega)
  · refine ⟨⟨_, rfl⟩, cm_mono (k_put hx h1 h2 h3 h4 _ h.2.1) ?_⟩
    rintro r M2 (⟨g1, rfl, rfl⟩ | ⟨g1, g2, rfl, rfl⟩ | ⟨g1, g2, g3, rfl, rfl⟩ | ⟨g1, g2, g3, rfl, rfl⟩ | ⟨p, rfl, g1, g2, g3, g4, rfl, -⟩) <;> first | exact ⟨rfl, n, h.same⟩ | exact absurd g2 q2 | exact absurd g4 q2 | (exfalso; omega)
  · refine ⟨⟨_, rfl⟩, cm_mono (k_put hx h1 h2 h3 h4 _ h.2.1) ?_⟩
    rintro r M2 (⟨g1, rfl, rfl⟩ | ⟨g1, g2, rfl, rfl⟩ | ⟨g1, g2, g3, rfl, rfl⟩ | ⟨g1, g2, g3, rfl, rfl⟩ | ⟨p, rfl, g1, g2, g3, g4, rfl, -⟩) <;> first | exact ⟨rfl, n, h.same⟩ | exact absurd q2 g2 | (exfalso; omega)
  · refine ⟨⟨_, rfl⟩, cm_mono (k_put hx h1 h2 h3 h4 _ h.2.1) ?_⟩
    rintro r M2 (⟨g1, rfl, rfl⟩ | ⟨g1, g2, rfl, rfl⟩ | ⟨g1, g2, g3, rfl, rfl⟩ | ⟨g1, g2, g3, rfl, rfl⟩ | ⟨p, rfl, g1, g2, g3, g4, rfl, -⟩) <;> first | exact ⟨rfl, n, h.same⟩ | exact absurd q2 g2 | (exfalso; omega)
  have hsz := h.1.sz
  obtain ⟨i1, i2, i3, i4, i5⟩ := insM_at (M := M) (p := p) (kd := kd) (a := a) (b := putB kd b) (z := putZ kd z)
  rw [hsz] at i2 i3 i4 i5
  have e1 : ∀ q, (q ≤ 2 ∨ q = 38 ∨ (40 ≤ q ∧ q ≤ 50) ∨ 54 ≤ q) → M1 q = M q := fun q hq => by rw [hF.o (by omega), insM_o (by omega)]
  have hK1 := h.2.1.hi (M' := M1) (fun q hq => e1 q (by omega))
  refine ⟨⟨_, rfl⟩, cm_mono (k_put hx h1 h2 h3 h4 M1 hK1) ?_⟩
  rintro r M2 (⟨g1, rfl, rfl⟩ | ⟨g1, g2, rfl, rfl⟩ | ⟨g1, g2, g3, rfl, rfl⟩ | ⟨g1, g2, g3, rfl, rfl⟩ | ⟨p', ep, g1, g2, g3, g4, rfl, hM2⟩)
  · omega
  · exact absurd q4 g2
  · omega
  · omega
  have : p = p' := by omega
  subst this
  refine ⟨rfl, n + 1, ?_⟩
  rw [hM2]
  refine (h.chg (X := mputM M1 p n kd a b z) hC h39 e1 (fun q hq => ?_) (fun j hj => ?_) ?_ ?_).mono (by omega)
  · unfold mputM; rw [upM_o hq.1, rwc_ne hq.2]
  · unfold mputM; rw [upM_n (Or.inr hj), rwc_ne (by decide)]
  · unfold mputM; rw [upM_s]; rfl
  · have x57 : mputM M1 p n kd a b z 57 = pu4 (gU (M 57) p p n) p kd a (putB kd b) (putN kd z) := by unfold mputM; rw [upM_o (by decide), rwc_at, e1 57 (by decide)]
    have xo : ∀ q, 10 ≤ q → q ≤ 13 → mputM M1 p n kd a b z q = insM M 9 p kd a (putB kd b) (putZ kd z) q := fun q a1 a2 => by unfold mputM; rw [upM_o (by omega), rwc_ne (by omega), hF.o (by omega)]
    unfold lnS
    rw [x57, xo 10 (by decide) (by decide), xo (10 + 1) (by decide) (by decide), xo (10 + 2) (by decide) (by decide), xo (10 + 3) (by decide) (by decide), i2]
    show ∀ j : Nat, j < n + 1 → _ ∧ _ = insM M 9 p kd a (putB kd b) (putZ kd z) 11 j ∧ _ = insM M 9 p kd a (putB kd b) (putZ kd z) 12 j ∧ _ = nmV _ (insM M 9 p kd a (putB kd b) (putZ kd z) 13 j)
    rw [i3, i4, i5]
    exact put_ln h.2.2.st q1 q4
theorem gW_at {f : Int → Int} {p m j : Int} : (j < p → gW f p m (4 * j) = f (4 * j) ∧ gW f p m (4 * j + 1) = f (4 * j + 1) ∧ gW f p m (4 * j + 2) = f (4 * j + 2) ∧ gW f p m (4 * j + 3) = f (4 * j + 3)) ∧ (p ≤ j → j < m → gW f p m (4 * j) = f (4 * (j + 1)) ∧ gW f p m (4 * j + 1) = f (4 * (j + 1) + 1) - bmp (mK f) (mA f) p (j + 1) ∧ gW f p m (4 * j + 2) = f (4 * (j + 1) + 2) ∧ gW f p m (4 * j + 3) = f (4 * (j + 1) + 3)) := by
  unfold gW
  constructor
  · intro h
    rw [if_neg (by omega), if_neg (by omega), if_neg (by omega), if_neg (by omega)]
    exact ⟨rfl, rfl, rfl, rfl⟩
  · intro h h2
    have q1 : (4 * j + 1) / 4 + 1 = j + 1 := by omega
    refine ⟨?_, ?_, ?_, ?_⟩
    · rw [if_pos (by omega), if_neg (by omega), Int.sub_zero]
      exact congrArg f (by omega)
    · rw [if_pos (by omega), if_pos (by omega), q1]
      exact congrArg (fun t => f t - _) (by omega)
    · rw [if_pos (by omega), if_neg (by omega), Int.sub_zero]
      exact congrArg f (by omega)
    · rw [if_pos (by omega), if_neg (by omega), Int.sub_zero]
      exact congrArg f (by omega)
theorem take_ln {M : Mm} {m p : Nat} (hL : lnS M 10 57 (m + 1)) (hp : p ≤ m) : ∀ j : Nat, j < m → gW (M 57) p m (4 * (j : Int)) = dnK (M 10) p m j ∧ gW (M 57) p m (4 * (j : Int) + 1) = dnF (M 10) (M 11) p m j ∧ gW (M 57) p m (4 * (j : Int) + 2) = dnK (M 12) p m j ∧ gW (M 57) p m (4 * (j : Int) + 3) = nmV (dnK (M 10) p m j) (dnK (M 13) p m j) := by
  intro j hj
  obtain ⟨g1, g2⟩ := gW_at (f := M 57) (p := p) (m := m) (j := j)
  unfold dnK dnF
  by_cases c : (j : Int) < p
  · obtain ⟨v1, v2, v3, v4⟩ := g1 c
    rw [v1, v2, v3, v4, if_neg (by omega), if_neg (by omega), if_neg (by omega), if_neg (by omega)]
    exact hL j (by omega)
  · obtain ⟨v1, v2, v3, v4⟩ := g2 (by omega) (by omega)
    rw [v1, v2, v3, v4, if_pos (by omega), if_pos (by omega), if_pos (by omega), if_pos (by omega)]
    obtain ⟨w1, w2, w3, w4⟩ := hL (j + 1) (by omega)
    refine ⟨w1, ?_, w3, w4⟩
    have w2' : M 57 (4 * ((j : Int) + 1) + 1) = M 11 ((j : Int) + 1) := w2
    rw [w2']
    exact congrArg (fun t => M 11 ((j : Int) + 1) - t) (bmp_cg (kf := M 10) (f := M 11) (kf' := mK (M 57)) (f' := mA (M 57)) (j := (j : Int) + 1) w1 w2)
theorem lc_take {M : Mm} {n c : Nat} (h : SR M n c) {x : Int} (hx : inR x) : Cm mX8_take [vR 0, vI x] M (fun r M1 => Cs mX9_take [vI x] c r M1) := by
  have h6 := h.1.n6
  have hb : (0 ≤ x ∧ x + 1 < n) → M 57 (4 * (x + 1)) = M 10 (x + 1) ∧ M 57 (4 * (x + 1) + 1) = M 11 (x + 1) := by
    intro q
    obtain ⟨k, rfl⟩ := Int.eq_ofNat_of_zero_le q.1
    obtain ⟨w1, w2, -⟩ := h.2.2.st (k + 1) (by omega)
    exact ⟨w1, w2⟩
  refine cm_mono (c_take hx M h.1) ?_
  rintro r M1 (⟨q1, rfl, rfl⟩ | ⟨q1, q2, rfl, rfl⟩ | ⟨p, m, rfl, rfl, q1, q2, q3, rfl, hC, h39, hF⟩)
  · refine ⟨⟨_, rfl⟩, cm_mono (k_take hx _ h.2.1) ?_⟩
    rintro r M2 (⟨g1, rfl, rfl⟩ | ⟨g1, g2, rfl, rfl⟩ | ⟨p, m, rfl, rfl, g1, g2, g3, rfl, -⟩) <;> first | exact ⟨rfl, _, h.same⟩ | (exfalso; omega)
  · refine ⟨⟨_, rfl⟩, cm_mono (k_take hx _ h.2.1) ?_⟩
    rintro r M2 (⟨g1, rfl, rfl⟩ | ⟨g1, g2, rfl, rfl⟩ | ⟨p, m, rfl, rfl, g1, g2, g3, rfl, -⟩)
    · exfalso; omega
    · exact ⟨rfl, _, h.same⟩
    · exfalso
      rcases q2 with q2 | q2
      · omega
      · obtain ⟨y1, y2⟩ := hb ⟨by omega, by omega⟩
        exact g3 ⟨q2.1, by rw [y1]; exact q2.2.1, by rw [y2]; exact q2.2.2⟩
  have hsz := h.1.sz
  obtain ⟨i1, i2, i3, i4, i5⟩ := remM_at (M := M) (p := p)
  have em : M 9 4 - 1 = (m : Int) := by rw [hsz]; omega
  rw [em] at i2 i3 i4 i5
  have e1 : ∀ q, (q ≤ 2 ∨ q = 38 ∨ (40 ≤ q ∧ q ≤ 50) ∨ 54 ≤ q) → M1 q = M q := fun q hq => by rw [hF.o (by omega), remM_o (by omega)]
  have hK1 := h.2.1.hi (M' := M1) (fun q hq => e1 q (by omega))
  refine ⟨⟨_, rfl⟩, cm_mono (k_take hx M1 hK1) ?_⟩
  rw [e1 57 (by decide)]
  rintro r M2 (⟨g1, rfl, rfl⟩ | ⟨g1, g2, rfl, rfl⟩ | ⟨p', m', ep, en, g1, g2, g3, rfl, hM2⟩)
  · omega
  · exfalso
    rcases g2 with g2 | g2
    · omega
    · obtain ⟨y1, y2⟩ := hb ⟨by omega, by omega⟩
      rw [y1, y2] at g2
      exact q3 g2
  have : p = p' := by omega
  subst this
  have : m = m' := by omega
  subst this
  refine ⟨rfl, m, ?_⟩
  rw [hM2]
  refine (h.chg (X := mtakM M1 p m) hC h39 e1 (fun q hq => ?_) (fun j hj => ?_) ?_ ?_).mono (by omega)
  · unfold mtakM; rw [rwc_ne hq.2, upM_o hq.1]
  · unfold mtakM; rw [rwc_ne (by decide), upM_n (Or.inr hj)]
  · unfold mtakM; rw [rwc_ne (by decide), upM_s]
  · have x57 : mtakM M1 p m 57 = gW (M 57) p m := by unfold mtakM; rw [rwc_at, e1 57 (by decide)]
    have xo : ∀ q, 10 ≤ q → q ≤ 13 → mtakM M1 p m q = remM M 9 p q := fun q a1 a2 => by unfold mtakM; rw [rwc_ne (by omega), upM_o (by omega), hF.o (by omega)]
    unfold lnS
    rw [x57, xo 10 (by decide) (by decide), xo (10 + 1) (by decide) (by decide), xo (10 + 2) (by decide) (by decide), xo (10 + 3) (by decide) (by decide), i2]
    show ∀ j : Nat, j < m → _ ∧ _ = remM M 9 p 11 j ∧ _ = remM M 9 p 12 j ∧ _ = nmV _ (remM M 9 p 13 j)
    rw [i3, i4, i5]
    exact take_ln h.2.2.st q1
theorem lc_by {M : Mm} {n c : Nat} (h : SR M n c) {x z : Int} (hx : inR x) (hz : inR z) : Cm mX8_by [vR 0, vI x, vI z] M (fun r M1 => Cs mX9_by [vI x, vI z] c r M1) := by
  have h6 := h.1.n6
  have hkd : (0 ≤ x ∧ x < n) → M 57 (4 * x) = M 10 x ∧ (M 10 x = 0 ∨ M 10 x = 1 ∨ M 10 x = 2 ∨ M 10 x = 3 ∨ M 10 x = 4) := by
    intro q
    obtain ⟨k, rfl⟩ := Int.eq_ofNat_of_zero_le q.1
    refine ⟨(h.2.2.st k (by omega)).1, ?_⟩
    rcases h.1.ok k (by omega) with y | y
    · unfold stOK at y; omega
    · omega
  refine cm_mono (c_by hx hz M h.1) ?_
  rintro r M1 (⟨q1, rfl, rfl⟩ | ⟨q1, q2, rfl, rfl⟩ | ⟨q1, q2, q3, rfl, rfl⟩ | ⟨p, rfl, q1, q2, q3, Y, rfl, hC, h39, hF, hPc⟩)
  · refine ⟨⟨_, rfl⟩, cm_mono (k_by hx hz _ h.2.1) ?_⟩
    rintro r M2 (⟨g1, rfl, rfl⟩ | ⟨g1, g2, rfl, rfl⟩ | ⟨g1, g2, g3, rfl, rfl⟩ | ⟨p, rfl, g1, g2, g3, -⟩) <;> first | exact ⟨rfl, _, h.same⟩ | (exfalso; omega)
  · refine ⟨⟨_, rfl⟩, cm_mono (k_by hx hz _ h.2.1) ?_⟩
    rintro r M2 (⟨g1, rfl, rfl⟩ | ⟨g1, g2, rfl, rfl⟩ | ⟨g1, g2, g3, rfl, rfl⟩ | ⟨p, rfl, g1, g2, g3, -⟩) <;> first | exact ⟨rfl, _, h.same⟩ | (exfalso; omega)
  · obtain ⟨y1, y2⟩ := hkd q1
    refine ⟨⟨_, rfl⟩, cm_mono (k_by hx hz _ h.2.1) ?_⟩
    rintro r M2 (⟨g1, rfl, rfl⟩ | ⟨g1, g2, rfl, rfl⟩ | ⟨g1, g2, g3, rfl, rfl⟩ | ⟨p, rfl, g1, g2, g3, -⟩) <;> first | exact ⟨rfl, _, h.same⟩ | (exfalso; omega)
  obtain ⟨y1, y2⟩ := hkd ⟨by omega, by omega⟩
  have e0 : ∀ q, (q ≤ 2 ∨ q = 38 ∨ (40 ≤ q ∧ q ≤ 50) ∨ 54 ≤ q) → Y q = M q := fun q hq => by rw [hF.o (by omega), upM_o (by omega)]
  have e1 : ∀ q, (q ≤ 2 ∨ q = 38 ∨ (40 ≤ q ∧ q ≤ 50) ∨ 54 ≤ q) → M1 q = M q := fun q hq => by rw [hPc.1 q (by omega), e0 q hq]
  have hC1 := hPc.ci hC
  have h391 : ∀ j, 0 ≤ j → j < 5 → M1 39 j = 0 := fun j a b => by rw [hPc.1 39 (by decide)]; exact h39 j a b
  have hK1 := h.2.1.hi (M' := M1) (fun q hq => e1 q (by omega))
  refine ⟨⟨_, rfl⟩, cm_mono (k_by hx hz M1 hK1) ?_⟩
  rw [e1 57 (by decide)]
  rintro r M2 (⟨g1, rfl, rfl⟩ | ⟨g1, g2, rfl, rfl⟩ | ⟨g1, g2, g3, rfl, rfl⟩ | ⟨p', ep, g1, g2, g3, hq, A, s, hA, rfl⟩)
  · omega
  · omega
  · omega
  have hX : SR (chM (upM M1 57 (4 * (p : Int) + 3) (100 + z))) n c := by
    refine h.chg (X := upM M1 57 (4 * (p : Int) + 3) (100 + z)) hC1 h391 e1 (fun q hq => upM_o hq.2) (fun j hj => upM_n (Or.inl (by decide))) (by rw [upM_n (Or.inl (by decide)), e1 54 (by decide)]; exact h.2.1.sz) ?_
    have x57 : upM M1 57 (4 * (p : Int) + 3) (100 + z) 57 = up1 (M 57) (4 * (p : Int) + 3) (100 + z) := by rw [upM_rw, rwc_at, e1 57 (by decide)]
    have xo : ∀ q, 10 ≤ q → q ≤ 13 → upM M1 57 (4 * (p : Int) + 3) (100 + z) q = upM M 13 p z q := fun q a1 a2 => by rw [upM_o (by omega), hPc.1 q (by omega), hF.o (by omega)]
    intro j hj
    rw [x57, xo 10 (by decide) (by decide), xo (10 + 1) (by decide) (by decide), xo (10 + 2) (by decide) (by decide), xo (10 + 3) (by decide) (by decide), upM_o (show (10 : Nat) ≠ 13 by decide), upM_o (show (10 + 1 : Nat) ≠ 13 by decide), upM_o (show (10 + 2 : Nat) ≠ 13 by decide), up1_n (by omega), up1_n (by omega), up1_n (by omega)]
    obtain ⟨w1, w2, w3, w4⟩ := h.2.2.st j hj
    refine ⟨w1, w2, w3, ?_⟩
    show _ = nmV _ (upM M 13 p z 13 j)
    by_cases e : (j : Int) = p
    · rw [e, up1_s, upM_s]
      unfold nmV
      rw [if_pos q3]
      omega
    · rw [up1_n (by omega), upM_n (Or.inr e)]
      exact w4
  have hS2 : SR M2 n (c + 1) := hX.askq hX.1 (fun _ _ => rfl) hq
  refine ⟨?_, n, hS2⟩
  obtain ⟨B, t, b1, b2, b3, b4⟩ := hC.rn (by omega)
  obtain ⟨B', t', c1, c2, -⟩ := hS2.run
  have hB' := c2 (by omega)
  have hn := (prun_uniq n A B' s t' hA hB').2 n (Nat.le_refl n)
  have c3 := (c1 (by omega) n (Nat.le_refl n)).cnt
  have e4 : cntF M2 (aC n) = cntF Y (aC n) := by
    have lo : ∀ q, q < 54 → M2 q = M1 q := fun q hq' => by
      rw [hq.1.2 q (by omega) (by omega) (by omega) (by omega) (by omega) (by omega)]
      unfold chM
      rw [rwc_ne (by omega), upM_o (by omega), upM_o (by omega)]
    unfold cntF
    rw [lo _ (by unfold aC; omega), lo _ (by unfold aC; omega), hPc.1 _ (by unfold aC; omega), hPc.1 _ (by unfold aC; omega)]
  rw [hn, ← c3, e4]
