/-! ===== calls that change something (written by gen71.py) ===== -/
theorem mFS.fr {M M' : Mm} {n : Nat} (h : mFS M n) (e57 : M' 57 = M 57) (e17 : M' 54 17 = M 54 17) (e58 : M' 58 = M 58) (e63 : M' 63 = M 63) : mFS M' n := by
  obtain ⟨A, r, h1, h2, h3, h4, h5⟩ := h
  refine ⟨A, r, by rw [e57]; exact h1, by rw [e17]; exact h2, h3, h4, fun q hq => ?_⟩
  rw [e58, e63]
  exact h5 q hq
theorem SR.same {M : Mm} {n c : Nat} (h : SR M n c) : SR M n (c + 1) := h.askq h.1 (fun _ _ => rfl) (Kq.rf h.2.1)
theorem lc_letter {M : Mm} {n c : Nat} (h : SR M n c) {x : Int} (hx : inR x) : Cm mX8_letter [vR 0, vI x] M (fun r M1 => Cs mX9_letter [vI x] c r M1) := by
  have hJ := h.1.j
  have hK := h.2.1
  have hL := h.2.2
  have p0 := hJ.pg0
  have p1 := hJ.pg1
  have pg := hL.pg
  refine cm_mono (c_letter hx M p0 p1) ?_
  rintro r M1 ⟨rfl, hM1⟩
  by_cases hg : x < 1 ∨ 126 < x ∨ 36 ≤ M 1 1
  · rw [if_pos hg] at hM1
    subst hM1
    refine ⟨⟨_, rfl⟩, cm_mono (k_letter hx M1 (by omega) (by omega)) ?_⟩
    rintro r M2 ⟨rfl, hM2⟩
    rw [if_pos (by omega)] at hM2
    subst hM2
    refine ⟨?_, n, h.same⟩
    rw [pg]
  rw [if_neg hg] at hM1
  have f : ∀ q, (q ≠ 1 ∧ q ≠ 2) → M1 q = M q := fun q hq => by rw [hM1, rwc_ne hq.1, rwc_ne hq.2]
  have a1 : M1 1 1 = M 1 1 + 1 := by rw [hM1, rwc_at, up1_s]
  have a2 : M1 2 = up1 (M 2) (M 1 1) x := by rw [hM1, rwc_ne (by decide), rwc_at]
  clear hM1
  have hJ1 : CJ M1 n := by
    apply CJ.mk
    case sz => rw [f 9 (by decide)]; exact hJ.sz
    case n6 => exact hJ.n6
    case ok => rw [f 10 (by decide), f 11 (by decide), f 12 (by decide), f 13 (by decide)]; exact hJ.ok
    case b9 => intro j; rw [f _ (by decide), f _ (by decide), f _ (by decide), f _ (by decide)]; exact hJ.b9 j
    case b4 => intro j; rw [f _ (by decide), f _ (by decide), f _ (by decide), f _ (by decide)]; exact hJ.b4 j
    case b43 => intro j; rw [f _ (by decide), f _ (by decide), f _ (by decide), f _ (by decide)]; exact hJ.b43 j
    case pg0 => rw [a1]; omega
    case pg1 => rw [a1]; omega
    case pgl => 
      intro j j1 j2
      rw [a1] at j2
      rw [a2]
      by_cases e : j = M 1 1
      · rw [e, up1_s]; omega
      · rw [up1_n e]; exact hJ.pgl j j1 (by omega)
    case rd3 => rw [f 3 (by decide)]; exact hJ.rd3
    case rkb => rw [f 38 (by decide)]; exact hJ.rkb
    case sn0 => rw [f 40 (by decide)]; exact hJ.sn0
    case sn1 => rw [f 40 (by decide)]; exact hJ.sn1
    case snb => rw [f 41 (by decide), f 49 (by decide)]; exact hJ.snb
    case snr => rw [f 42 (by decide), f 50 (by decide)]; exact hJ.snr
    case im0 => rw [f 0 (by decide)]; exact hJ.im0
    case im1 => rw [f 0 (by decide), f 43 (by decide), f 44 (by decide), f 45 (by decide), f 46 (by decide), f 47 (by decide), f 48 (by decide)]; exact hJ.im1
    case rdg => rw [f 0 (by decide)]; exact hJ.rdg
    case sc => rw [f 52 (by decide)]; exact hJ.sc
  have hC1 : CI M1 n := h.1.ch hJ1 (fun q a b => f q ⟨by omega, by omega⟩) (by rw [f 39 (by decide)]; exact h.1.rk)
  have e54 : M1 54 1 = M 1 1 := by rw [f 54 (by decide)]; exact pg
  refine ⟨⟨_, rfl⟩, cm_mono (k_letter hx M1 (by omega) (by omega)) ?_⟩
  rintro r M2 ⟨rfl, hM2⟩
  rw [if_neg (by omega), e54] at hM2
  have e : ∀ q, (q ≠ 1 ∧ q ≠ 2 ∧ q ≠ 54 ∧ q ≠ 55) → M2 q = M q := fun q hq => by rw [hM2, upM_o hq.2.2.1, upM_o hq.2.2.2, f q ⟨hq.1, hq.2.1⟩]
  have ef : ∀ j, j ≠ 1 → M2 54 j = M 54 j := fun j hj => by rw [hM2, upM_n (Or.inr hj), upM_n (Or.inl (by decide)), f 54 (by decide)]
  have b1 : M2 54 1 = M 1 1 + 1 := by rw [hM2, upM_s]
  have b5 : M2 55 = up1 (M 55) (M 1 1) x := by rw [hM2, upM_o (by decide), upM_rw, rwc_at, f 55 (by decide)]
  have lo : ∀ q, q < 54 → M2 q = M1 q := fun q hq => by rw [hM2, upM_o (by omega), upM_o (by omega)]
  clear hM2
  refine ⟨by rw [e54], n, hC1.lo lo, ?_, ?_⟩
  · apply KI.mk
    case pg0 => rw [b1]; omega
    case pg1 => rw [b1]; omega
    case pgl => 
      intro j j1 j2
      rw [b1] at j2
      rw [b5]
      by_cases q : j = M 1 1
      · rw [q, up1_s]; omega
      · rw [up1_n q]; exact hK.pgl j j1 (by omega)
    case sz => rw [ef 8 (by decide)]; exact hK.sz
    case n6 => exact hK.n6
    case ok => rw [e 57 (by decide)]; exact hK.ok
    case bd => rw [e 57 (by decide)]; exact hK.bd
    case ol => rw [ef 11 (by decide)]; exact hK.ol
    case fr => rw [ef 11 (by decide)]; exact fun a b => (hK.fr a b).fr (e 57 (by decide)) (ef 17 (by decide)) (e 58 (by decide)) (e 63 (by decide))
    case sg => intro p a; rw [e 59 (by decide)]; exact hK.sg p a
    case rkb => rw [e 64 (by decide)]; exact hK.rkb
    case sn0 => rw [ef 20 (by decide)]; exact hK.sn0
    case sn1 => rw [ef 20 (by decide)]; exact hK.sn1
    case snb => rw [e 65 (by decide)]; exact hK.snb
    case pr => rw [ef 9 (by decide)]; exact hK.pr
    case kp => rw [ef 23 (by decide), ef 9 (by decide)]; exact hK.kp
  · apply SL.mk
    case pg => rw [b1, lo 1 (by decide), a1]
    case pl => 
      intro j hj
      rw [lo 1 (by decide), a1] at hj
      rw [b5, lo 2 (by decide), a2]
      by_cases q : (j : Int) = M 1 1
      · rw [q, up1_s, up1_s]
      · rw [up1_n q, up1_n q]; exact hL.pl j (by omega)
    case st => unfold lnS; rw [e 57 (by decide), e 10 (by decide), e (10 + 1) (by decide), e (10 + 2) (by decide), e (10 + 3) (by decide)]; exact hL.st
    case rk => intro kd q; unfold rkV; rw [e 38 (by decide), e 39 (by decide), e 64 (by decide)]; exact hL.rk kd q
    case rp => rw [e 39 (by decide), e 38 (by decide)]; exact hL.rp
    case sn => rw [ef 20 (by decide), e 40 (by decide)]; exact hL.sn
    case ss => unfold lnV; rw [e 65 (by decide), e 41 (by decide), e (41 + 1) (by decide), e 40 (by decide)]; exact hL.ss
    case rd => rw [ef 9 (by decide), e 0 (by decide)]; exact hL.rd
    case kp => rw [ef 9 (by decide), ef 23 (by decide), e 0 (by decide)]; exact hL.kp
    case ks => unfold lnS lnV; rw [ef 24 (by decide), ef 25 (by decide), e 0 (by decide), e 43 (by decide), e 44 (by decide), e (44 + 1) (by decide), e (44 + 2) (by decide), e (44 + 3) (by decide), e 48 (by decide), e 49 (by decide), e (49 + 1) (by decide), e 66 (by decide), e 67 (by decide)]; exact hL.ks
    case kv => rw [e 67 (by decide)]; exact hL.kv
    case ct => rw [e 0 (by decide)]; exact Int.le_trans hL.ct (by omega)
theorem lc_blank {M : Mm} {n c : Nat} (h : SR M n c) : Cm mX8_blank [vR 0] M (fun r M1 => Cs mX9_blank [] c r M1) := by
  have hJ := h.1.j
  have hK := h.2.1
  have hL := h.2.2
  refine cm_mono (c_blank M) ?_
  rintro r M1 ⟨rfl, hM1⟩
  have f : ∀ q, q ≠ 1 → M1 q = M q := fun q hq => by rw [hM1, upM_o hq]
  have a1 : M1 1 1 = 0 := by rw [hM1, upM_s]
  have hJ1 : CJ M1 n := by
    apply CJ.mk
    case sz => rw [f 9 (by decide)]; exact hJ.sz
    case n6 => exact hJ.n6
    case ok => rw [f 10 (by decide), f 11 (by decide), f 12 (by decide), f 13 (by decide)]; exact hJ.ok
    case b9 => intro j; rw [f _ (by decide), f _ (by decide), f _ (by decide), f _ (by decide)]; exact hJ.b9 j
    case b4 => intro j; rw [f _ (by decide), f _ (by decide), f _ (by decide), f _ (by decide)]; exact hJ.b4 j
    case b43 => intro j; rw [f _ (by decide), f _ (by decide), f _ (by decide), f _ (by decide)]; exact hJ.b43 j
    case pg0 => rw [a1]; omega
    case pg1 => rw [a1]; omega
    case pgl => intro j j1 j2; rw [a1] at j2; omega
    case rd3 => rw [f 3 (by decide)]; exact hJ.rd3
    case rkb => rw [f 38 (by decide)]; exact hJ.rkb
    case sn0 => rw [f 40 (by decide)]; exact hJ.sn0
    case sn1 => rw [f 40 (by decide)]; exact hJ.sn1
    case snb => rw [f 41 (by decide), f 49 (by decide)]; exact hJ.snb
    case snr => rw [f 42 (by decide), f 50 (by decide)]; exact hJ.snr
    case im0 => rw [f 0 (by decide)]; exact hJ.im0
    case im1 => rw [f 0 (by decide), f 43 (by decide), f 44 (by decide), f 45 (by decide), f 46 (by decide), f 47 (by decide), f 48 (by decide)]; exact hJ.im1
    case rdg => rw [f 0 (by decide)]; exact hJ.rdg
    case sc => rw [f 52 (by decide)]; exact hJ.sc
  have hC1 : CI M1 n := h.1.ch hJ1 (fun q a b => f q (by omega)) (by rw [f 39 (by decide)]; exact h.1.rk)
  refine ⟨⟨_, rfl⟩, cm_mono (k_blank M1) ?_⟩
  rintro r M2 ⟨rfl, hM2⟩
  have e : ∀ q, (q ≠ 1 ∧ q ≠ 54) → M2 q = M q := fun q hq => by rw [hM2, upM_o hq.2, f q hq.1]
  have ef : ∀ j, j ≠ 1 → M2 54 j = M 54 j := fun j hj => by rw [hM2, upM_n (Or.inr hj), f 54 (by decide)]
  have b1 : M2 54 1 = 0 := by rw [hM2, upM_s]
  have lo : ∀ q, q < 54 → M2 q = M1 q := fun q hq => by rw [hM2, upM_o (by omega)]
  clear hM1 hM2
  refine ⟨by rw [f 54 (by decide), hL.pg], n, hC1.lo lo, ?_, ?_⟩
  · apply KI.mk
    case pg0 => rw [b1]; omega
    case pg1 => rw [b1]; omega
    case pgl => intro j j1 j2; rw [b1] at j2; omega
    case sz => rw [ef 8 (by decide)]; exact hK.sz
    case n6 => exact hK.n6
    case ok => rw [e 57 (by decide)]; exact hK.ok
    case bd => rw [e 57 (by decide)]; exact hK.bd
    case ol => rw [ef 11 (by decide)]; exact hK.ol
    case fr => rw [ef 11 (by decide)]; exact fun a b => (hK.fr a b).fr (e 57 (by decide)) (ef 17 (by decide)) (e 58 (by decide)) (e 63 (by decide))
    case sg => intro p a; rw [e 59 (by decide)]; exact hK.sg p a
    case rkb => rw [e 64 (by decide)]; exact hK.rkb
    case sn0 => rw [ef 20 (by decide)]; exact hK.sn0
    case sn1 => rw [ef 20 (by decide)]; exact hK.sn1
    case snb => rw [e 65 (by decide)]; exact hK.snb
    case pr => rw [ef 9 (by decide)]; exact hK.pr
    case kp => rw [ef 23 (by decide), ef 9 (by decide)]; exact hK.kp
  · apply SL.mk
    case pg => rw [b1, lo 1 (by decide), a1]
    case pl => intro j hj; rw [lo 1 (by decide), a1] at hj; omega
    case st => unfold lnS; rw [e 57 (by decide), e 10 (by decide), e (10 + 1) (by decide), e (10 + 2) (by decide), e (10 + 3) (by decide)]; exact hL.st
    case rk => intro kd q; unfold rkV; rw [e 38 (by decide), e 39 (by decide), e 64 (by decide)]; exact hL.rk kd q
    case rp => rw [e 39 (by decide), e 38 (by decide)]; exact hL.rp
    case sn => rw [ef 20 (by decide), e 40 (by decide)]; exact hL.sn
    case ss => unfold lnV; rw [e 65 (by decide), e 41 (by decide), e (41 + 1) (by decide), e 40 (by decide)]; exact hL.ss
    case rd => rw [ef 9 (by decide), e 0 (by decide)]; exact hL.rd
    case kp => rw [ef 9 (by decide), ef 23 (by decide), e 0 (by decide)]; exact hL.kp
    case ks => unfold lnS lnV; rw [ef 24 (by decide), ef 25 (by decide), e 0 (by decide), e 43 (by decide), e 44 (by decide), e (44 + 1) (by decide), e (44 + 2) (by decide), e (44 + 3) (by decide), e 48 (by decide), e 49 (by decide), e (49 + 1) (by decide), e 66 (by decide), e 67 (by decide)]; exact hL.ks
    case kv => rw [e 67 (by decide)]; exact hL.kv
    case ct => rw [e 0 (by decide)]; exact Int.le_trans hL.ct (by omega)
theorem lc_forget {M : Mm} {n c : Nat} (h : SR M n c) : Cm mX8_forget [vR 0] M (fun r M1 => Cs mX9_forget [] c r M1) := by
  have hJ := h.1.j
  have hK := h.2.1
  have hL := h.2.2
  refine cm_mono (c_forget M) ?_
  rintro r M1 ⟨rfl, hM1⟩
  have f : ∀ q, q ≠ 40 → M1 q = M q := fun q hq => by rw [hM1, upM_o hq]
  have a1 : M1 40 2 = 0 := by rw [hM1, upM_s]
  have hJ1 : CJ M1 n := by
    apply CJ.mk
    case sz => rw [f 9 (by decide)]; exact hJ.sz
    case n6 => exact hJ.n6
    case ok => rw [f 10 (by decide), f 11 (by decide), f 12 (by decide), f 13 (by decide)]; exact hJ.ok
    case b9 => intro j; rw [f _ (by decide), f _ (by decide), f _ (by decide), f _ (by decide)]; exact hJ.b9 j
    case b4 => intro j; rw [f _ (by decide), f _ (by decide), f _ (by decide), f _ (by decide)]; exact hJ.b4 j
    case b43 => intro j; rw [f _ (by decide), f _ (by decide), f _ (by decide), f _ (by decide)]; exact hJ.b43 j
    case pg0 => rw [f 1 (by decide)]; exact hJ.pg0
    case pg1 => rw [f 1 (by decide)]; exact hJ.pg1
    case pgl => rw [f 1 (by decide), f 2 (by decide)]; exact hJ.pgl
    case rd3 => rw [f 3 (by decide)]; exact hJ.rd3
    case rkb => rw [f 38 (by decide)]; exact hJ.rkb
    case sn0 => rw [a1]; omega
    case sn1 => rw [a1]; omega
    case snb => rw [f 41 (by decide), f 49 (by decide)]; exact hJ.snb
    case snr => rw [f 42 (by decide), f 50 (by decide)]; exact hJ.snr
    case im0 => rw [f 0 (by decide)]; exact hJ.im0
    case im1 => rw [f 0 (by decide), f 43 (by decide), f 44 (by decide), f 45 (by decide), f 46 (by decide), f 47 (by decide), f 48 (by decide)]; exact hJ.im1
    case rdg => rw [f 0 (by decide)]; exact hJ.rdg
    case sc => rw [f 52 (by decide)]; exact hJ.sc
  have hC1 : CI M1 n := h.1.ch hJ1 (fun q a b => f q (by omega)) (by rw [f 39 (by decide)]; exact h.1.rk)
  refine ⟨⟨_, rfl⟩, cm_mono (k_forget M1) ?_⟩
  rintro r M2 ⟨rfl, hM2⟩
  have e : ∀ q, (q ≠ 40 ∧ q ≠ 54) → M2 q = M q := fun q hq => by rw [hM2, upM_o hq.2, f q hq.1]
  have ef : ∀ j, j ≠ 20 → M2 54 j = M 54 j := fun j hj => by rw [hM2, upM_n (Or.inr hj), f 54 (by decide)]
  have b1 : M2 54 20 = 0 := by rw [hM2, upM_s]
  have lo : ∀ q, q < 54 → M2 q = M1 q := fun q hq => by rw [hM2, upM_o (by omega)]
  clear hM1 hM2
  refine ⟨by rw [f 54 (by decide), hL.sn], n, hC1.lo lo, ?_, ?_⟩
  · apply KI.mk
    case pg0 => rw [ef 1 (by decide)]; exact hK.pg0
    case pg1 => rw [ef 1 (by decide)]; exact hK.pg1
    case pgl => rw [ef 1 (by decide), e 55 (by decide)]; exact hK.pgl
    case sz => rw [ef 8 (by decide)]; exact hK.sz
    case n6 => exact hK.n6
    case ok => rw [e 57 (by decide)]; exact hK.ok
    case bd => rw [e 57 (by decide)]; exact hK.bd
    case ol => rw [ef 11 (by decide)]; exact hK.ol
    case fr => rw [ef 11 (by decide)]; exact fun a b => (hK.fr a b).fr (e 57 (by decide)) (ef 17 (by decide)) (e 58 (by decide)) (e 63 (by decide))
    case sg => intro p a; rw [e 59 (by decide)]; exact hK.sg p a
    case rkb => rw [e 64 (by decide)]; exact hK.rkb
    case sn0 => rw [b1]; omega
    case sn1 => rw [b1]; omega
    case snb => rw [e 65 (by decide)]; exact hK.snb
    case pr => rw [ef 9 (by decide)]; exact hK.pr
    case kp => rw [ef 23 (by decide), ef 9 (by decide)]; exact hK.kp
  · apply SL.mk
    case pg => rw [ef 1 (by decide), e 1 (by decide)]; exact hL.pg
    case pl => rw [e 1 (by decide), e 2 (by decide), e 55 (by decide)]; exact hL.pl
    case st => unfold lnS; rw [e 57 (by decide), e 10 (by decide), e (10 + 1) (by decide), e (10 + 2) (by decide), e (10 + 3) (by decide)]; exact hL.st
    case rk => intro kd q; unfold rkV; rw [e 38 (by decide), e 39 (by decide), e 64 (by decide)]; exact hL.rk kd q
    case rp => rw [e 39 (by decide), e 38 (by decide)]; exact hL.rp
    case sn => rw [b1, lo 40 (by decide), a1]
    case ss => intro j hj; rw [lo 40 (by decide), a1] at hj; exact absurd hj (by simp)
    case rd => rw [ef 9 (by decide), e 0 (by decide)]; exact hL.rd
    case kp => rw [ef 9 (by decide), ef 23 (by decide), e 0 (by decide)]; exact hL.kp
    case ks => unfold lnS lnV; rw [ef 24 (by decide), ef 25 (by decide), e 0 (by decide), e 43 (by decide), e 44 (by decide), e (44 + 1) (by decide), e (44 + 2) (by decide), e (44 + 3) (by decide), e 48 (by decide), e 49 (by decide), e (49 + 1) (by decide), e 66 (by decide), e 67 (by decide)]; exact hL.ks
    case kv => rw [e 67 (by decide)]; exact hL.kv
    case ct => rw [e 0 (by decide)]; exact Int.le_trans hL.ct (by omega)
theorem lc_rack {M : Mm} {n c : Nat} (h : SR M n c) {x y : Int} (hx : inR x) (hy : inR y) : Cm mX8_rack [vR 0, vI x, vI y] M (fun r M1 => Cs mX9_rack [vI x, vI y] c r M1) := by
  have hJ := h.1.j
  have hK := h.2.1
  have hL := h.2.2
  have h6 := h.1.n6
  have hz := h.rkH
  have hkd : (0 ≤ x ∧ x < n) → M 57 (4 * x) = M 10 x := by
    intro q
    obtain ⟨k, rfl⟩ := Int.eq_ofNat_of_zero_le q.1
    exact (hL.st k (by omega)).1
  refine cm_mono (c_rack hx hy M h.1) ?_
  rintro r M1 (⟨q1, rfl, rfl⟩ | ⟨q1, q2, rfl, rfl⟩ | ⟨q1, q2, q3, rfl, rfl⟩ | ⟨q1, q2, q3, q4, rfl, rfl⟩ | ⟨q1, q2, q3, q4, rfl, hM1⟩)
  · refine ⟨⟨_, rfl⟩, cm_mono (k_rack hx hy _ hK hz) ?_⟩
    rintro r M2 (⟨g1, rfl, rfl⟩ | ⟨g1, g2, rfl, rfl⟩ | ⟨g1, g2, g3, rfl, rfl⟩ | ⟨g1, g2, g3, g4, rfl, rfl⟩ | ⟨g1, g2, g3, g4, rfl, -⟩) <;> first | exact ⟨rfl, n, h.same⟩ | omega
  · refine ⟨⟨_, rfl⟩, cm_mono (k_rack hx hy _ hK hz) ?_⟩
    rintro r M2 (⟨g1, rfl, rfl⟩ | ⟨g1, g2, rfl, rfl⟩ | ⟨g1, g2, g3, rfl, rfl⟩ | ⟨g1, g2, g3, g4, rfl, rfl⟩ | ⟨g1, g2, g3, g4, rfl, -⟩) <;> first | exact ⟨rfl, n, h.same⟩ | omega
  · refine ⟨⟨_, rfl⟩, cm_mono (k_rack hx hy _ hK hz) ?_⟩
    rintro r M2 (⟨g1, rfl, rfl⟩ | ⟨g1, g2, rfl, rfl⟩ | ⟨g1, g2, g3, rfl, rfl⟩ | ⟨g1, g2, g3, g4, rfl, rfl⟩ | ⟨g1, g2, g3, g4, rfl, -⟩) <;> first | exact ⟨rfl, n, h.same⟩ | omega
  · have ek := hkd q1
    refine ⟨⟨_, rfl⟩, cm_mono (k_rack hx hy _ hK hz) ?_⟩
    rintro r M2 (⟨g1, rfl, rfl⟩ | ⟨g1, g2, rfl, rfl⟩ | ⟨g1, g2, g3, rfl, rfl⟩ | ⟨g1, g2, g3, g4, rfl, rfl⟩ | ⟨g1, g2, g3, g4, rfl, -⟩) <;> first | exact ⟨rfl, n, h.same⟩ | omega
  have ek := hkd q1
  have hs := h.1.rk y q2.1 q2.2
  have f : ∀ q, (q ≠ 38 ∧ q ≠ 39) → M1 q = M q := fun q hq => by rw [hM1, rwc_ne hq.2, rwc_ne hq.1]
  have a1 : M1 38 = up1 (M 38) (y * 3 + M 39 y) x := by rw [hM1, rwc_ne (by decide), rwc_at]
  have a2 : M1 39 = up1 (M 39) y (M 39 y + 1) := by rw [hM1, rwc_at]
  clear hM1
  have hJ1 : CJ M1 n := by
    apply CJ.mk
    case sz => rw [f 9 (by decide)]; exact hJ.sz
    case n6 => exact hJ.n6
    case ok => rw [f 10 (by decide), f 11 (by decide), f 12 (by decide), f 13 (by decide)]; exact hJ.ok
    case b9 => intro j; rw [f _ (by decide), f _ (by decide), f _ (by decide), f _ (by decide)]; exact hJ.b9 j
    case b4 => intro j; rw [f _ (by decide), f _ (by decide), f _ (by decide), f _ (by decide)]; exact hJ.b4 j
    case b43 => intro j; rw [f _ (by decide), f _ (by decide), f _ (by decide), f _ (by decide)]; exact hJ.b43 j
    case pg0 => rw [f 1 (by decide)]; exact hJ.pg0
    case pg1 => rw [f 1 (by decide)]; exact hJ.pg1
    case pgl => rw [f 1 (by decide), f 2 (by decide)]; exact hJ.pgl
    case rd3 => rw [f 3 (by decide)]; exact hJ.rd3
    case rkb => 
      intro j j1 j2
      rw [a1]
      by_cases e : j = y * 3 + M 39 y
      · rw [e, up1_s]; omega
      · rw [up1_n e]; exact hJ.rkb j j1 j2
    case sn0 => rw [f 40 (by decide)]; exact hJ.sn0
    case sn1 => rw [f 40 (by decide)]; exact hJ.sn1
    case snb => rw [f 41 (by decide), f 49 (by decide)]; exact hJ.snb
    case snr => rw [f 42 (by decide), f 50 (by decide)]; exact hJ.snr
    case im0 => rw [f 0 (by decide)]; exact hJ.im0
    case im1 => rw [f 0 (by decide), f 43 (by decide), f 44 (by decide), f 45 (by decide), f 46 (by decide), f 47 (by decide), f 48 (by decide)]; exact hJ.im1
    case rdg => rw [f 0 (by decide)]; exact hJ.rdg
    case sc => rw [f 52 (by decide)]; exact hJ.sc
  have hrk : ∀ j, 0 ≤ j → j < 5 → 0 ≤ M1 39 j ∧ M1 39 j ≤ 3 := by
    intro j j1 j2
    rw [a2]
    by_cases e : j = y
    · rw [e, up1_s]; omega
    · rw [up1_n e]; exact h.1.rk j j1 j2
  have hC1 : CI M1 n := h.1.ch hJ1 (fun q a b => f q ⟨by omega, by omega⟩) hrk
  have hz1 : rkH M1 (M 39) := fun kd a b => by rw [f 64 (by decide)]; exact hz kd a b
  have e57 : M1 57 = M 57 := f 57 (by decide)
  refine ⟨⟨_, rfl⟩, cm_mono (k_rack hx hy M1 (hK.hi (fun q hq => f q ⟨by omega, by omega⟩)) hz1) ?_⟩
  rw [e57]
  rintro r M2 (⟨g1, rfl, rfl⟩ | ⟨g1, g2, rfl, rfl⟩ | ⟨g1, g2, g3, rfl, rfl⟩ | ⟨g1, g2, g3, g4, rfl, rfl⟩ | ⟨g1, g2, g3, g4, rfl, hM2⟩)
  · omega
  · omega
  · omega
  · omega
  have e : ∀ q, (q ≠ 38 ∧ q ≠ 39 ∧ q ≠ 64) → M2 q = M q := fun q hq => by rw [hM2, upM_o hq.2.2, f q ⟨hq.1, hq.2.1⟩]
  have ef : ∀ j, True → M2 54 j = M 54 j := fun j _ => by rw [e 54 (by decide)]
  have b1 : M2 64 = up1 (M 64) (3 * y + M 39 y) x := by rw [hM2, upM_rw, rwc_at, f 64 (by decide)]
  have lo : ∀ q, q < 54 → M2 q = M1 q := fun q hq => by rw [hM2, upM_o (by omega)]
  clear hM2
  refine ⟨rfl, n, hC1.lo lo, ?_, ?_⟩
  · apply KI.mk
    case pg0 => rw [ef 1 (by decide)]; exact hK.pg0
    case pg1 => rw [ef 1 (by decide)]; exact hK.pg1
    case pgl => rw [ef 1 (by decide), e 55 (by decide)]; exact hK.pgl
    case sz => rw [ef 8 (by decide)]; exact hK.sz
    case n6 => exact hK.n6
    case ok => rw [e 57 (by decide)]; exact hK.ok
    case bd => rw [e 57 (by decide)]; exact hK.bd
    case ol => rw [ef 11 (by decide)]; exact hK.ol
    case fr => rw [ef 11 (by decide)]; exact fun a b => (hK.fr a b).fr (e 57 (by decide)) (ef 17 (by decide)) (e 58 (by decide)) (e 63 (by decide))
    case sg => intro p a; rw [e 59 (by decide)]; exact hK.sg p a
    case rkb => 
      intro j j1 j2
      rw [b1]
      by_cases q : j = 3 * y + M 39 y
      · rw [q, up1_s]; omega
      · rw [up1_n q]; exact hK.rkb j j1 j2
    case sn0 => rw [ef 20 (by decide)]; exact hK.sn0
    case sn1 => rw [ef 20 (by decide)]; exact hK.sn1
    case snb => rw [e 65 (by decide)]; exact hK.snb
    case pr => rw [ef 9 (by decide)]; exact hK.pr
    case kp => rw [ef 23 (by decide), ef 9 (by decide)]; exact hK.kp
  · apply SL.mk
    case pg => rw [ef 1 (by decide), e 1 (by decide)]; exact hL.pg
    case pl => rw [e 1 (by decide), e 2 (by decide), e 55 (by decide)]; exact hL.pl
    case st => unfold lnS; rw [e 57 (by decide), e 10 (by decide), e (10 + 1) (by decide), e (10 + 2) (by decide), e (10 + 3) (by decide)]; exact hL.st
    case rk => 
      intro kd q k1 k2 q1' q2'
      unfold rkV
      rw [b1, lo 38 (by decide), lo 39 (by decide), a1, a2]
      have old := hL.rk kd q k1 k2 q1' q2'
      unfold rkV at old
      have hkk := h.1.rk kd k1 k2
      by_cases e1 : kd = y
      · subst e1
        rw [up1_s]
        by_cases e2 : q = M 39 kd
        · rw [e2, up1_s, if_pos (by omega), up1_s]
        · rw [up1_n (by omega), up1_n (by omega), old]
          by_cases e3 : q < M 39 kd
          · rw [if_pos e3, if_pos (by omega)]
          · rw [if_neg e3, if_neg (by omega)]
      · rw [up1_n (by omega), up1_n e1, old]
        by_cases e3 : q < M 39 kd
        · rw [if_pos e3, if_pos e3, up1_n (by omega)]
        · rw [if_neg e3, if_neg e3]
    case rp => 
      intro kd q k1 k2 q1' q2'
      rw [lo 39 (by decide), a2] at q2'
      rw [lo 38 (by decide), a1]
      have hkk := h.1.rk kd k1 k2
      by_cases e2 : kd * 3 + q = y * 3 + M 39 y
      · rw [e2, up1_s]; omega
      · rw [up1_n e2]
        refine hL.rp kd q k1 k2 q1' ?_
        by_cases e1 : kd = y
        · subst e1
          rw [up1_s] at q2'
          omega
        · rw [up1_n e1] at q2'
          exact q2'
    case sn => rw [ef 20 (by decide), e 40 (by decide)]; exact hL.sn
    case ss => unfold lnV; rw [e 65 (by decide), e 41 (by decide), e (41 + 1) (by decide), e 40 (by decide)]; exact hL.ss
    case rd => rw [ef 9 (by decide), e 0 (by decide)]; exact hL.rd
    case kp => rw [ef 9 (by decide), ef 23 (by decide), e 0 (by decide)]; exact hL.kp
    case ks => unfold lnS lnV; rw [ef 24 (by decide), ef 25 (by decide), e 0 (by decide), e 43 (by decide), e 44 (by decide), e (44 + 1) (by decide), e (44 + 2) (by decide), e (44 + 3) (by decide), e 48 (by decide), e 49 (by decide), e (49 + 1) (by decide), e 66 (by decide), e 67 (by decide)]; exact hL.ks
    case kv => rw [e 67 (by decide)]; exact hL.kv
    case ct => rw [e 0 (by decide)]; exact Int.le_trans hL.ct (by omega)
theorem lc_see {M : Mm} {n c : Nat} (h : SR M n c) {x y z : Int} (hx : inR x) (hy : inR y) (hz : z = 0 ∨ z = 1) : Cm mX8_see [vR 0, vI x, vI y, vI z] M (fun r M1 => Cs mX9_see [vI x, vI y, vI z] c r M1) := by
  have hJ := h.1.j
  have hK := h.2.1
  have hL := h.2.2
  have h6 := h.1.n6
  have sn := hL.sn
  have s0 := hJ.sn0
  refine cm_mono (c_see hx hy hz M h.1) ?_
  rintro r M1 (⟨q1, rfl, rfl⟩ | ⟨q1, q2, rfl, rfl⟩ | ⟨q1, q2, q3, rfl, rfl⟩ | ⟨q1, q2, q3, rfl, hM1⟩)
  · refine ⟨⟨_, rfl⟩, cm_mono (k_see hx hy hz _ hK) ?_⟩
    rintro r M2 (⟨g1, rfl, rfl⟩ | ⟨g1, g2, rfl, rfl⟩ | ⟨g1, g2, g3, rfl, rfl⟩ | ⟨g1, g2, g3, rfl, -⟩) <;> first | exact ⟨rfl, n, h.same⟩ | omega
  · refine ⟨⟨_, rfl⟩, cm_mono (k_see hx hy hz _ hK) ?_⟩
    rintro r M2 (⟨g1, rfl, rfl⟩ | ⟨g1, g2, rfl, rfl⟩ | ⟨g1, g2, g3, rfl, rfl⟩ | ⟨g1, g2, g3, rfl, -⟩) <;> first | exact ⟨rfl, n, h.same⟩ | omega
  · refine ⟨⟨_, rfl⟩, cm_mono (k_see hx hy hz _ hK) ?_⟩
    rintro r M2 (⟨g1, rfl, rfl⟩ | ⟨g1, g2, rfl, rfl⟩ | ⟨g1, g2, g3, rfl, rfl⟩ | ⟨g1, g2, g3, rfl, -⟩) <;> first | exact ⟨rfl, n, h.same⟩ | omega
  have f : ∀ q, (q ≠ 40 ∧ q ≠ 41 ∧ q ≠ 42) → M1 q = M q := fun q hq => by rw [hM1, rwc_ne hq.1, rwc_ne hq.2.2, rwc_ne hq.2.1]
  have a0 : M1 40 2 = M 40 2 + 1 := by rw [hM1, rwc_at, up1_s]
  have a1 : M1 41 = up1 (M 41) (M 40 2) x := by rw [hM1, rwc_ne (by decide), rwc_ne (by decide), rwc_at]
  have a2 : M1 42 = up1 (M 42) (M 40 2) (srtV y z) := by rw [hM1, rwc_ne (by decide), rwc_at]
  clear hM1
  have hsr := srt_e (w := y) (q := z) q2.1 (by omega) hz
  have hss := srt_r (w := y) (q := z) q2.1 (by omega) hz
  have hJ1 : CJ M1 n := by
    apply CJ.mk
    case sz => rw [f 9 (by decide)]; exact hJ.sz
    case n6 => exact hJ.n6
    case ok => rw [f 10 (by decide), f 11 (by decide), f 12 (by decide), f 13 (by decide)]; exact hJ.ok
    case b9 => intro j; rw [f _ (by decide), f _ (by decide), f _ (by decide), f _ (by decide)]; exact hJ.b9 j
    case b4 => intro j; rw [f _ (by decide), f _ (by decide), f _ (by decide), f _ (by decide)]; exact hJ.b4 j
    case b43 => intro j; rw [f _ (by decide), f _ (by decide), f _ (by decide), f _ (by decide)]; exact hJ.b43 j
    case pg0 => rw [f 1 (by decide)]; exact hJ.pg0
    case pg1 => rw [f 1 (by decide)]; exact hJ.pg1
    case pgl => rw [f 1 (by decide), f 2 (by decide)]; exact hJ.pgl
    case rd3 => rw [f 3 (by decide)]; exact hJ.rd3
    case rkb => rw [f 38 (by decide)]; exact hJ.rkb
    case sn0 => rw [a0]; omega
    case sn1 => rw [a0]; omega
    case snb => 
      intro j j1 j2
      rw [a1, f 49 (by decide)]
      refine ⟨?_, (hJ.snb j j1 j2).2⟩
      by_cases e : j = M 40 2
      · rw [e, up1_s]; omega
      · rw [up1_n e]; exact (hJ.snb j j1 j2).1
    case snr => 
      intro j j1 j2
      rw [a2, f 50 (by decide)]
      refine ⟨?_, (hJ.snr j j1 j2).2⟩
      by_cases e : j = M 40 2
      · rw [e, up1_s, ← hsr]; exact hss
      · rw [up1_n e]; exact (hJ.snr j j1 j2).1
    case im0 => rw [f 0 (by decide)]; exact hJ.im0
    case im1 => rw [f 0 (by decide), f 43 (by decide), f 44 (by decide), f 45 (by decide), f 46 (by decide), f 47 (by decide), f 48 (by decide)]; exact hJ.im1
    case rdg => rw [f 0 (by decide)]; exact hJ.rdg
    case sc => rw [f 52 (by decide)]; exact hJ.sc
  have hC1 : CI M1 n := h.1.ch hJ1 (fun q a b => f q ⟨by omega, by omega, by omega⟩) (by rw [f 39 (by decide)]; exact h.1.rk)
  have e20 : M1 54 20 = M 40 2 := by rw [f 54 (by decide)]; exact sn
  refine ⟨⟨_, rfl⟩, cm_mono (k_see hx hy hz M1 (hK.hi (fun q hq => f q ⟨by omega, by omega, by omega⟩))) ?_⟩
  rw [e20]
  rintro r M2 (⟨g1, rfl, rfl⟩ | ⟨g1, g2, rfl, rfl⟩ | ⟨g1, g2, g3, rfl, rfl⟩ | ⟨g1, g2, g3, rfl, hM2⟩)
  · omega
  · omega
  · omega
  unfold seeM at hM2
  rw [e20] at hM2
  have e : ∀ q, (q ≠ 40 ∧ q ≠ 41 ∧ q ≠ 42 ∧ q ≠ 54 ∧ q ≠ 65) → M2 q = M q := fun q hq => by rw [hM2, upM_o hq.2.2.2.1, upM_o hq.2.2.2.2, upM_o hq.2.2.2.2, upM_o hq.2.2.2.2, f q ⟨hq.1, hq.2.1, hq.2.2.1⟩]
  have ef : ∀ j, j ≠ 20 → M2 54 j = M 54 j := fun j hj => by rw [hM2, upM_n (Or.inr hj), upM_n (Or.inl (by decide)), upM_n (Or.inl (by decide)), upM_n (Or.inl (by decide)), f 54 (by decide)]
  have b0 : M2 54 20 = M 40 2 + 1 := by rw [hM2, upM_s]
  have b1 : ∀ j, j ≠ 3 * M 40 2 → j ≠ 3 * M 40 2 + 1 → j ≠ 3 * M 40 2 + 2 → M2 65 j = M 65 j := fun j j1 j2 j3 => by rw [hM2, upM_n (Or.inl (by decide)), upM_n (Or.inr j3), upM_n (Or.inr j2), upM_n (Or.inr j1), f 65 (by decide)]
  have c0 : M2 65 (3 * M 40 2) = x := by rw [hM2, upM_n (Or.inl (by decide)), upM_n (Or.inr (by omega)), upM_n (Or.inr (by omega)), upM_s]
  have c1 : M2 65 (3 * M 40 2 + 1) = y := by rw [hM2, upM_n (Or.inl (by decide)), upM_n (Or.inr (by omega)), upM_s]
  have c2 : M2 65 (3 * M 40 2 + 2) = z := by rw [hM2, upM_n (Or.inl (by decide)), upM_s]
  have lo : ∀ q, q < 54 → M2 q = M1 q := fun q hq => by rw [hM2, upM_o (by omega), upM_o (by omega), upM_o (by omega), upM_o (by omega)]
  clear hM2
  refine ⟨rfl, n, hC1.lo lo, ?_, ?_⟩
  · apply KI.mk
    case pg0 => rw [ef 1 (by decide)]; exact hK.pg0
    case pg1 => rw [ef 1 (by decide)]; exact hK.pg1
    case pgl => rw [ef 1 (by decide), e 55 (by decide)]; exact hK.pgl
    case sz => rw [ef 8 (by decide)]; exact hK.sz
    case n6 => exact hK.n6
    case ok => rw [e 57 (by decide)]; exact hK.ok
    case bd => rw [e 57 (by decide)]; exact hK.bd
    case ol => rw [ef 11 (by decide)]; exact hK.ol
    case fr => rw [ef 11 (by decide)]; exact fun a b => (hK.fr a b).fr (e 57 (by decide)) (ef 17 (by decide)) (e 58 (by decide)) (e 63 (by decide))
    case sg => intro p a; rw [e 59 (by decide)]; exact hK.sg p a
    case rkb => rw [e 64 (by decide)]; exact hK.rkb
    case sn0 => rw [b0]; omega
    case sn1 => rw [b0]; omega
    case snb => 
      intro j j1 j2
      by_cases q : j = M 40 2
      · rw [q, c0, c1, c2]; omega
      · rw [b1 _ (by omega) (by omega) (by omega), b1 _ (by omega) (by omega) (by omega), b1 _ (by omega) (by omega) (by omega)]
        exact hK.snb j j1 j2
    case pr => rw [ef 9 (by decide)]; exact hK.pr
    case kp => rw [ef 23 (by decide), ef 9 (by decide)]; exact hK.kp
  · apply SL.mk
    case pg => rw [ef 1 (by decide), e 1 (by decide)]; exact hL.pg
    case pl => rw [e 1 (by decide), e 2 (by decide), e 55 (by decide)]; exact hL.pl
    case st => unfold lnS; rw [e 57 (by decide), e 10 (by decide), e (10 + 1) (by decide), e (10 + 2) (by decide), e (10 + 3) (by decide)]; exact hL.st
    case rk => intro kd q; unfold rkV; rw [e 38 (by decide), e 39 (by decide), e 64 (by decide)]; exact hL.rk kd q
    case rp => rw [e 39 (by decide), e 38 (by decide)]; exact hL.rp
    case sn => rw [b0, lo 40 (by decide), a0]
    case ss => 
      intro j hj
      rw [lo 40 (by decide), a0] at hj
      rw [lo 41 (by decide), lo (41 + 1) (by decide), a1]
      show _ ∧ _ = M1 42 j
      rw [a2]
      by_cases q : (j : Int) = M 40 2
      · rw [q, c0, c1, c2, up1_s, up1_s]; exact ⟨rfl, hsr⟩
      · rw [up1_n q, up1_n q, b1 _ (by omega) (by omega) (by omega), b1 _ (by omega) (by omega) (by omega), b1 _ (by omega) (by omega) (by omega)]
        exact hL.ss j (by omega)
    case rd => rw [ef 9 (by decide), e 0 (by decide)]; exact hL.rd
    case kp => rw [ef 9 (by decide), ef 23 (by decide), e 0 (by decide)]; exact hL.kp
    case ks => unfold lnS lnV; rw [ef 24 (by decide), ef 25 (by decide), e 0 (by decide), e 43 (by decide), e 44 (by decide), e (44 + 1) (by decide), e (44 + 2) (by decide), e (44 + 3) (by decide), e 48 (by decide), e 49 (by decide), e (49 + 1) (by decide), e 66 (by decide), e 67 (by decide)]; exact hL.ks
    case kv => rw [e 67 (by decide)]; exact hL.kv
    case ct => rw [e 0 (by decide)]; exact Int.le_trans hL.ct (by omega)
theorem lc_drawn {M : Mm} {n c : Nat} (h : SR M n c) {t s w : Int} (ht : inR t) (hs : inR s) (hw : inR w) : Cm mX8_drawn [vR 0, vI t, vI s, vI w] M (fun r M1 => Cs mX9_drawn [vI t, vI s, vI w] c r M1) := by
  have hJ := h.1.j
  refine cm_mono (c_drawn ht hs hw M hJ.sc) ?_
  rintro r M1 (⟨q1, rfl, rfl⟩ | ⟨q1, rfl, hf, h52⟩)
  · refine ⟨⟨_, rfl⟩, cm_mono (k_drawn ht hs hw _ h.2.1) ?_⟩
    rintro r M2 (⟨g1, rfl, rfl⟩ | ⟨g1, -, -⟩)
    · exact ⟨rfl, n, h.same⟩
    · exact absurd g1 q1
  have f : ∀ q, (q ≠ 51 ∧ q ≠ 52 ∧ q ≠ 53) → M1 q = M q := fun q hq => hf q hq.1 hq.2.1 hq.2.2
  have hJ1 : CJ M1 n := by
    apply CJ.mk
    case sz => rw [f 9 (by decide)]; exact hJ.sz
    case n6 => exact hJ.n6
    case ok => rw [f 10 (by decide), f 11 (by decide), f 12 (by decide), f 13 (by decide)]; exact hJ.ok
    case b9 => intro j; rw [f _ (by decide), f _ (by decide), f _ (by decide), f _ (by decide)]; exact hJ.b9 j
    case b4 => intro j; rw [f _ (by decide), f _ (by decide), f _ (by decide), f _ (by decide)]; exact hJ.b4 j
    case b43 => intro j; rw [f _ (by decide), f _ (by decide), f _ (by decide), f _ (by decide)]; exact hJ.b43 j
    case pg0 => rw [f 1 (by decide)]; exact hJ.pg0
    case pg1 => rw [f 1 (by decide)]; exact hJ.pg1
    case pgl => rw [f 1 (by decide), f 2 (by decide)]; exact hJ.pgl
    case rd3 => rw [f 3 (by decide)]; exact hJ.rd3
    case rkb => rw [f 38 (by decide)]; exact hJ.rkb
    case sn0 => rw [f 40 (by decide)]; exact hJ.sn0
    case sn1 => rw [f 40 (by decide)]; exact hJ.sn1
    case snb => rw [f 41 (by decide), f 49 (by decide)]; exact hJ.snb
    case snr => rw [f 42 (by decide), f 50 (by decide)]; exact hJ.snr
    case im0 => rw [f 0 (by decide)]; exact hJ.im0
    case im1 => rw [f 0 (by decide), f 43 (by decide), f 44 (by decide), f 45 (by decide), f 46 (by decide), f 47 (by decide), f 48 (by decide)]; exact hJ.im1
    case rdg => rw [f 0 (by decide)]; exact hJ.rdg
    case sc => exact h52
  have hC1 : CI M1 n := h.1.ch hJ1 (fun q a b => f q ⟨by omega, by omega, by omega⟩) (by rw [f 39 (by decide)]; exact h.1.rk)
  have hK1 := h.2.1.hi (M' := M1) (fun q hq => f q ⟨by omega, by omega, by omega⟩)
  refine ⟨⟨_, rfl⟩, cm_mono (k_drawn ht hs hw M1 hK1) ?_⟩
  rintro r M2 (⟨g1, -, -⟩ | ⟨g1, rfl, hg⟩)
  · exact absurd q1 g1
  exact ⟨rfl, n, h.ask hC1 (fun q hq => f q ⟨by omega, by omega, by omega⟩) (hK1.dw hg) (fun q hq => hg.2.1 q (by omega) (by omega)) (fun j hj => hg.1 j (by omega)) (fun q hq => hg.2.1 q (by omega) (by omega))⟩
theorem lc_fault {M : Mm} {n c : Nat} (h : SR M n c) : Cm mX8_fault [vR 0] M (fun r M1 => Cs mX9_fault [] c r M1) := by
  have p0 := h.1.pg0
  have p1 := h.1.pg1
  obtain ⟨m, hm⟩ := Int.eq_ofNat_of_zero_le p0
  refine cm_mono (c_fault (m := m) M h.1 hm) ?_
  rintro r M1 ⟨k, hE, rfl, hR⟩
  have hf := rdC_f0 hE.2.1
  have h0 := rd0_RI h.1.b4 h.1.rd3
  have hl : ∀ j : Nat, j < m → 1 ≤ M 2 j ∧ M 2 j ≤ 126 := fun j hj => h.1.pgl j (by omega) (by omega)
  have hK1 := h.2.1.hi (M' := M1) (fun q hq => hf q (Or.inr (by omega)))
  refine ⟨⟨_, rfl⟩, cm_mono (k_fault (X := M1) (by omega) h0 hl hE (by rw [hf 54 (by decide), h.2.2.pg]; exact hm) (fun j hj => by rw [hf 55 (by decide)]; exact h.2.2.pl j (by omega))) ?_⟩
  rintro r M2 ⟨rfl, hg⟩
  have e : ∀ q, (q ≠ 54 ∧ q ≠ 56) → M2 q = M1 q := fun q hq => hg.2 q hq.1 hq.2
  have ef : ∀ j, (j < 2 ∨ 6 < j) → M2 54 j = M1 54 j := hg.1
  refine ⟨rfl, n, h.ask (h.1.rd hf hR) (fun q hq => hf q (by omega)) ?_ (fun q hq => e q (by omega)) (fun j hj => ef j hj.1) (fun q hq => e q (by omega))⟩
  apply KI.mk
  case pg0 => rw [ef 1 (by decide)]; exact hK1.pg0
  case pg1 => rw [ef 1 (by decide)]; exact hK1.pg1
  case pgl => rw [ef 1 (by decide), e 55 (by decide)]; exact hK1.pgl
  case sz => rw [ef 8 (by decide)]; exact hK1.sz
  case n6 => exact hK1.n6
  case ok => rw [e 57 (by decide)]; exact hK1.ok
  case bd => rw [e 57 (by decide)]; exact hK1.bd
  case ol => rw [ef 11 (by decide)]; exact hK1.ol
  case fr => rw [ef 11 (by decide)]; exact fun a b => (hK1.fr a b).fr (e 57 (by decide)) (ef 17 (by decide)) (e 58 (by decide)) (e 63 (by decide))
  case sg => intro p a; rw [e 59 (by decide)]; exact hK1.sg p a
  case rkb => rw [e 64 (by decide)]; exact hK1.rkb
  case sn0 => rw [ef 20 (by decide)]; exact hK1.sn0
  case sn1 => rw [ef 20 (by decide)]; exact hK1.sn1
  case snb => rw [e 65 (by decide)]; exact hK1.snb
  case pr => rw [ef 9 (by decide)]; exact hK1.pr
  case kp => rw [ef 23 (by decide), ef 9 (by decide)]; exact hK1.kp
theorem lc_image {M : Mm} {n c : Nat} (h : SR M n c) : Cm mX8_image [vR 0] M (fun r M1 => Cs mX9_image [] c r M1) := by
  have hJ := h.1.j
  have hK := h.2.1
  have hL := h.2.2
  have h6 := h.1.n6
  have hsz := h.1.sz
  refine cm_mono (c_image M h.1) ?_
  rintro r M1 (⟨q1, rfl, rfl⟩ | ⟨q1, rfl, hM1⟩)
  · refine ⟨⟨_, rfl⟩, cm_mono (k_image _ hK) ?_⟩
    rintro r M2 (⟨g1, rfl, rfl⟩ | ⟨g1, -, -⟩)
    · exact ⟨rfl, n, h.same⟩
    · omega
  have f : ∀ q, (q ≠ 0 ∧ (q < 43 ∨ 50 < q)) → M1 q = M q := fun q hq => by
    rw [hM1]
    unfold imgM
    rw [upM_o hq.1, rwc_ne (by omega), rwc_ne (by omega), rwc_ne (by omega), rw4_o (by omega), rwc_ne (by omega)]
  have a0 : M1 0 10 = 1 := by rw [hM1]; unfold imgM; rw [upM_s]
  have a1 : M1 0 11 = M 0 11 := by
    rw [hM1]; unfold imgM
    rw [upM_n (Or.inr (by decide)), rwc_ne (by decide), rwc_ne (by decide), rwc_ne (by decide), rw4_o (by decide), rwc_ne (by decide)]
  have a43 : M1 43 4 = n := by
    rw [hM1]; unfold imgM
    rw [upM_o (by decide), rwc_ne (by decide), rwc_ne (by decide), rwc_ne (by decide), rw4_o (by decide), rwc_at, up1_s]; exact hsz
  have a44 : M1 44 = cpS 6 (M 10) (M 44) := by
    rw [hM1]; unfold imgM
    rw [upM_o (by decide), rwc_ne (by decide), rwc_ne (by decide), rwc_ne (by decide)]; exact rw4_1 _ 43 _ _ _ _
  have a45 : M1 45 = cpS 6 (M 11) (M 45) := by
    rw [hM1]; unfold imgM
    rw [upM_o (by decide), rwc_ne (by decide), rwc_ne (by decide), rwc_ne (by decide)]; exact rw4_2 _ 43 _ _ _ _
  have a46 : M1 46 = cpS 6 (M 12) (M 46) := by
    rw [hM1]; unfold imgM
    rw [upM_o (by decide), rwc_ne (by decide), rwc_ne (by decide), rwc_ne (by decide)]; exact rw4_3 _ 43 _ _ _ _
  have a47 : M1 47 = cpS 6 (M 13) (M 47) := by
    rw [hM1]; unfold imgM
    rw [upM_o (by decide), rwc_ne (by decide), rwc_ne (by decide), rwc_ne (by decide)]; exact rw4_4 _ 43 _ _ _ _
  have a48 : M1 48 2 = M 40 2 := by
    rw [hM1]; unfold imgM
    rw [upM_o (by decide), rwc_ne (by decide), rwc_ne (by decide), rwc_at, up1_s]
  have a49 : M1 49 = cpS 6 (M 41) (M 49) := by
    rw [hM1]; unfold imgM
    rw [upM_o (by decide), rwc_ne (by decide), rwc_at]
  have a50 : M1 50 = cpS 6 (M 42) (M 50) := by
    rw [hM1]; unfold imgM
    rw [upM_o (by decide), rwc_at]
  clear hM1
  have hJ1 : CJ M1 n := by
    apply CJ.mk
    case sz => rw [f 9 (by decide)]; exact hJ.sz
    case n6 => exact hJ.n6
    case ok => rw [f 10 (by decide), f 11 (by decide), f 12 (by decide), f 13 (by decide)]; exact hJ.ok
    case b9 => intro j; rw [f _ (by decide), f _ (by decide), f _ (by decide), f _ (by decide)]; exact hJ.b9 j
    case b4 => intro j; rw [f _ (by decide), f _ (by decide), f _ (by decide), f _ (by decide)]; exact hJ.b4 j
    case b43 => 
      intro j j1 j2
      have := hJ.b9 j j1 j2
      simp only [Nat.reduceAdd] at this ⊢
      rw [a44, a45, a46, a47, cp6 j1 j2, cp6 j1 j2, cp6 j1 j2, cp6 j1 j2]
      exact this
    case pg0 => rw [f 1 (by decide)]; exact hJ.pg0
    case pg1 => rw [f 1 (by decide)]; exact hJ.pg1
    case pgl => rw [f 1 (by decide), f 2 (by decide)]; exact hJ.pgl
    case rd3 => rw [f 3 (by decide)]; exact hJ.rd3
    case rkb => rw [f 38 (by decide)]; exact hJ.rkb
    case sn0 => rw [f 40 (by decide)]; exact hJ.sn0
    case sn1 => rw [f 40 (by decide)]; exact hJ.sn1
    case snb => 
      intro j j1 j2
      rw [a49, f 41 (by decide), cp6 j1 j2]
      exact ⟨(hJ.snb j j1 j2).1, (hJ.snb j j1 j2).1⟩
    case snr => 
      intro j j1 j2
      rw [a50, f 42 (by decide), cp6 j1 j2]
      exact ⟨(hJ.snr j j1 j2).1, (hJ.snr j j1 j2).1⟩
    case im0 => rw [a0]; exact Or.inr rfl
    case im1 => 
      intro _
      refine ⟨n, a43, q1, h6, ?_, by rw [a48]; exact hJ.sn0, by rw [a48]; exact hJ.sn1⟩
      rw [a44, a45, a46, a47]
      exact prOK_cg hJ.ok (fun j hj => ⟨cp6 (by omega) (by omega), cp6 (by omega) (by omega), cp6 (by omega) (by omega), cp6 (by omega) (by omega)⟩)
    case rdg => rw [a1]; exact hJ.rdg
    case sc => rw [f 52 (by decide)]; exact hJ.sc
  have hC1 : CI M1 n := h.1.ch hJ1 (fun q a b => f q ⟨by omega, by omega⟩) (by rw [f 39 (by decide)]; exact h.1.rk)
  have hi : ∀ q, 54 ≤ q → M1 q = M q := fun q hq => f q ⟨by omega, by omega⟩
  refine ⟨⟨_, rfl⟩, cm_mono (k_image M1 (hK.hi hi)) ?_⟩
  rintro r M2 (⟨g1, -, -⟩ | ⟨g1, rfl, hM2⟩)
  · omega
  unfold imkM at hM2
  rw [hi 54 (by decide), hi 57 (by decide), hi 65 (by decide), hi 66 (by decide), hi 67 (by decide)] at hM2
  have e : ∀ q, (q ≠ 0 ∧ (q < 43 ∨ 50 < q) ∧ q ≠ 54 ∧ q ≠ 66 ∧ q ≠ 67) → M2 q = M q := fun q hq => by rw [hM2, upM_o hq.2.2.1, upM_o hq.2.2.1, upM_o hq.2.2.1, rwc_ne hq.2.2.2.2, rwc_ne hq.2.2.2.1, f q ⟨hq.1, hq.2.1⟩]
  have ef : ∀ j, (j < 23 ∨ 25 < j) → M2 54 j = M 54 j := fun j hj => by rw [hM2, upM_n (Or.inr (by omega)), upM_n (Or.inr (by omega)), upM_n (Or.inr (by omega)), rwc_ne (by decide), rwc_ne (by decide), hi 54 (by decide)]
  have b23 : M2 54 23 = M 54 9 := by rw [hM2, upM_s]
  have b24 : M2 54 24 = M 54 8 := by rw [hM2, upM_n (Or.inr (by decide)), upM_n (Or.inr (by decide)), upM_s]
  have b25 : M2 54 25 = M 54 20 := by rw [hM2, upM_n (Or.inr (by decide)), upM_s]
  have b66 : M2 66 = cpS 24 (M 57) (M 66) := by rw [hM2, upM_o (by decide), upM_o (by decide), upM_o (by decide), rwc_ne (by decide), rwc_at]
  have b67 : M2 67 = cpS 18 (M 65) (M 67) := by rw [hM2, upM_o (by decide), upM_o (by decide), upM_o (by decide), rwc_at]
  have lo : ∀ q, q < 54 → M2 q = M1 q := fun q hq => by rw [hM2, upM_o (by omega), upM_o (by omega), upM_o (by omega), rwc_ne (by omega), rwc_ne (by omega)]
  clear hM2
  have k24 : ∀ j, 0 ≤ j → j < 24 → cpS 24 (M 57) (M 66) j = M 57 j := fun j j1 j2 => by unfold cpS; rw [if_pos (by omega)]
  have k18 : ∀ j, 0 ≤ j → j < 18 → cpS 18 (M 65) (M 67) j = M 65 j := fun j j1 j2 => by unfold cpS; rw [if_pos (by omega)]
  have s1 := hJ.sn1
  have s0 := hJ.sn0
  refine ⟨rfl, n, hC1.lo lo, ?_, ?_⟩
  · apply KI.mk
    case pg0 => rw [ef 1 (by decide)]; exact hK.pg0
    case pg1 => rw [ef 1 (by decide)]; exact hK.pg1
    case pgl => rw [ef 1 (by decide), e 55 (by decide)]; exact hK.pgl
    case sz => rw [ef 8 (by decide)]; exact hK.sz
    case n6 => exact hK.n6
    case ok => rw [e 57 (by decide)]; exact hK.ok
    case bd => rw [e 57 (by decide)]; exact hK.bd
    case ol => rw [ef 11 (by decide)]; exact hK.ol
    case fr => rw [ef 11 (by decide)]; exact fun a b => (hK.fr a b).fr (e 57 (by decide)) (ef 17 (by decide)) (e 58 (by decide)) (e 63 (by decide))
    case sg => intro p a; rw [e 59 (by decide)]; exact hK.sg p a
    case rkb => rw [e 64 (by decide)]; exact hK.rkb
    case sn0 => rw [ef 20 (by decide)]; exact hK.sn0
    case sn1 => rw [ef 20 (by decide)]; exact hK.sn1
    case snb => rw [e 65 (by decide)]; exact hK.snb
    case pr => rw [ef 9 (by decide)]; exact hK.pr
    case kp => rw [b23, ef 9 (by decide)]; have := hK.pr; omega
  · apply SL.mk
    case pg => rw [ef 1 (by decide), e 1 (by decide)]; exact hL.pg
    case pl => rw [e 1 (by decide), e 2 (by decide), e 55 (by decide)]; exact hL.pl
    case st => unfold lnS; rw [e 57 (by decide), e 10 (by decide), e (10 + 1) (by decide), e (10 + 2) (by decide), e (10 + 3) (by decide)]; exact hL.st
    case rk => intro kd q; unfold rkV; rw [e 38 (by decide), e 39 (by decide), e 64 (by decide)]; exact hL.rk kd q
    case rp => rw [e 39 (by decide), e 38 (by decide)]; exact hL.rp
    case sn => rw [ef 20 (by decide), e 40 (by decide)]; exact hL.sn
    case ss => unfold lnV; rw [e 65 (by decide), e 41 (by decide), e (41 + 1) (by decide), e 40 (by decide)]; exact hL.ss
    case rd => rw [ef 9 (by decide), lo 0 (by decide), a1]; exact hL.rd
    case kp => rw [b23, ef 9 (by decide), lo 0 (by decide)]; exact ⟨fun _ => rfl, fun _ => a0⟩
    case ks => 
      intro _
      rw [lo 43 (by decide), lo 48 (by decide), a43, a48]
      refine ⟨by rw [b24]; exact hK.sz, by rw [b25]; exact hL.sn, fun j hj => ?_, fun j hj => ?_⟩
      · rw [lo 44 (by decide), lo (44 + 1) (by decide), lo (44 + 2) (by decide), lo (44 + 3) (by decide), b66]
        show _ = M1 44 j ∧ _ = M1 45 j ∧ _ = M1 46 j ∧ _ = nmV (M1 44 j) (M1 47 j)
        rw [a44, a45, a46, a47, cp6 (by omega) (by omega), cp6 (by omega) (by omega), cp6 (by omega) (by omega), cp6 (by omega) (by omega), k24 _ (by omega) (by omega), k24 _ (by omega) (by omega), k24 _ (by omega) (by omega), k24 _ (by omega) (by omega)]
        exact hL.st j (by omega)
      · rw [lo 49 (by decide), lo (49 + 1) (by decide), b67]
        show _ = M1 49 j ∧ _ = M1 50 j
        rw [a49, a50, cp6 (by omega) (by omega), cp6 (by omega) (by omega), k18 _ (by omega) (by omega), k18 _ (by omega) (by omega), k18 _ (by omega) (by omega)]
        exact hL.ss j hj
    case kv => 
      intro j j1 j2
      rw [b67, k18 _ (by omega) (by omega), k18 _ (by omega) (by omega), k18 _ (by omega) (by omega)]
      exact hK.snb j j1 j2
    case ct => rw [lo 0 (by decide), a1]; exact Int.le_trans hL.ct (by omega)
