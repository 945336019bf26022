/-! ===== restore, program ===== -/
theorem lc_restore {M : Mm} {n c : Nat} (h : SR M n c) : Cm mX8_restore [vR 0] M (fun r M1 => Cs mX9_restore [] c r M1) := by
  have hL := h.2.2
  have hkp := hL.kp
  refine cm_mono (c_restore M h.1) ?_
  rintro r M1 (⟨q1, rfl, rfl⟩ | ⟨q1, m, q2, q3, rfl, hC, h39, hF⟩)
  · refine ⟨⟨_, rfl⟩, cm_mono (k_restore _ h.2.1) ?_⟩
    rintro r M2 (⟨g1, rfl, rfl⟩ | ⟨g1, -, -⟩)
    · exact ⟨rfl, _, h.same⟩
    · have := hkp.mpr g1; omega
  obtain ⟨k1, k2, k3, k4⟩ := hL.ks q1
  obtain ⟨m', z1, z2, z3, z4, z5, z6⟩ := h.1.im1 q1
  have hmm : m = m' := by omega
  subst hmm
  obtain ⟨a1, a2, a3, a4, a5, a6, a7, a8⟩ := rstM_at (M := M)
  have e1 : ∀ q, (q ≤ 2 ∨ q = 38 ∨ (43 ≤ q ∧ q ≤ 50) ∨ 54 ≤ q) → M1 q = M q := fun q hq => by rw [hF.o (by omega), rstM_o (by omega)]
  have er : ∀ q, (9 ≤ q ∧ q ≤ 13) ∨ (40 ≤ q ∧ q ≤ 42) → M1 q = rstM M q := fun q hq => hF.o (by omega)
  refine ⟨⟨_, rfl⟩, cm_mono (k_restore M1 (h.2.1.hi (fun q hq => e1 q (by omega)))) ?_⟩
  rw [e1 54 (by decide)]
  rintro r M2 (⟨g1, rfl, rfl⟩ | ⟨g1, rfl, hM2⟩)
  · exact absurd (hkp.mp q1) g1
  refine ⟨by rw [k1, q2], m, ?_⟩
  rw [hM2]
  have x54 : ∀ j, j ≠ 8 → j ≠ 20 → rsmM M1 54 j = M 54 j := fun j j1 j2 => by unfold rsmM; rw [upM_n (Or.inr j2), upM_n (Or.inr j1), rwc_ne (by decide), rwc_ne (by decide), e1 54 (by decide)]
  have x8 : rsmM M1 54 8 = M 54 24 := by unfold rsmM; rw [upM_n (Or.inr (by decide)), upM_s, e1 54 (by decide)]
  have x20 : rsmM M1 54 20 = M 54 25 := by unfold rsmM; rw [upM_s, e1 54 (by decide)]
  have xo : ∀ q, (q ≠ 54 ∧ q ≠ 57 ∧ q ≠ 65) → rsmM M1 q = M1 q := fun q hq => by unfold rsmM; rw [upM_o hq.1, upM_o hq.1, rwc_ne hq.2.2, rwc_ne hq.2.1]
  have x57 : rsmM M1 57 = cpS 24 (M 66) (M 57) := by unfold rsmM; rw [upM_o (by decide), upM_o (by decide), rwc_ne (by decide), rwc_at, e1 66 (by decide), e1 57 (by decide)]
  have x65 : rsmM M1 65 = cpS 18 (M 67) (M 65) := by unfold rsmM; rw [upM_o (by decide), upM_o (by decide), rwc_at, e1 67 (by decide), e1 65 (by decide)]
  have k24 : ∀ j, 0 ≤ j → j < 24 → cpS 24 (M 66) (M 57) j = M 66 j := fun j j1 j2 => by unfold cpS; rw [if_pos (by omega)]
  have k18 : ∀ j, 0 ≤ j → j < 18 → cpS 18 (M 67) (M 65) j = M 67 j := fun j j1 j2 => by unfold cpS; rw [if_pos (by omega)]
  have xm : ∀ q, ((q ≤ 2 ∨ q = 38 ∨ (43 ≤ q ∧ q ≤ 50) ∨ 54 ≤ q) ∧ (q ≠ 54 ∧ q ≠ 57 ∧ q ≠ 65)) → rsmM M1 q = M q := fun q hq => by rw [xo q hq.2, e1 q hq.1]
  have xr : ∀ q, (9 ≤ q ∧ q ≤ 13) ∨ (40 ≤ q ∧ q ≤ 42) → rsmM M1 q = rstM M q := fun q hq => by rw [xo q (by omega), er q hq]
  have hm : (M 43 4).toNat = m := by omega
  have s40 : rsmM M1 40 2 = M 48 2 := by rw [xr 40 (by decide)]; exact a6
  refine SR.new (c := c + 1) hC h39 (fun q hq => xo q (by omega)) (by rw [x8, k1, q2]) ?_ ?_ ?_ ?_ ?_ ?_ ?_ ?_ ?_ ?_ ?_ ?_ ?_
  · intro j hj
    rw [x57, xr 10 (by decide), xr (10 + 1) (by decide), xr (10 + 2) (by decide), xr (10 + 3) (by decide)]
    show _ = rstM M 10 j ∧ _ = rstM M 11 j ∧ _ = rstM M 12 j ∧ _ = nmV (rstM M 10 j) (rstM M 13 j)
    rw [a2, a3, a4, a5, cp6 (by omega) (by omega), cp6 (by omega) (by omega), cp6 (by omega) (by omega), cp6 (by omega) (by omega), k24 _ (by omega) (by omega), k24 _ (by omega) (by omega), k24 _ (by omega) (by omega), k24 _ (by omega) (by omega)]
    exact k3 j (by omega)
  · rw [x54 1 (by decide) (by decide), xm 1 (by decide)]; exact hL.pg
  · rw [xm 1 (by decide), xm 2 (by decide), xm 55 (by decide)]; exact hL.pl
  · rw [x20, s40, k2]
  · rw [s40]
    intro j hj
    rw [x65, xr 41 (by decide), xr (41 + 1) (by decide)]
    show _ = rstM M 41 j ∧ _ = rstM M 42 j
    rw [a7, a8, cp6 (by omega) (by omega), cp6 (by omega) (by omega), k18 _ (by omega) (by omega), k18 _ (by omega) (by omega), k18 _ (by omega) (by omega)]
    exact k4 j hj
  · intro j j1 j2
    rw [x65, k18 _ (by omega) (by omega), k18 _ (by omega) (by omega), k18 _ (by omega) (by omega)]
    exact hL.kv j j1 j2
  · intro p a; rw [xm 59 (by decide)]; exact h.2.1.sg p a
  · rw [x54 9 (by decide) (by decide), xm 0 (by decide)]; exact hL.rd
  · rw [x54 9 (by decide) (by decide), x54 23 (by decide) (by decide), xm 0 (by decide)]; exact hL.kp
  · rw [x54 9 (by decide) (by decide), x54 23 (by decide) (by decide)]; exact h.2.1.kp
  · unfold lnS lnV
    rw [x54 24 (by decide) (by decide), x54 25 (by decide) (by decide), xm 0 (by decide), xm 43 (by decide), xm 44 (by decide), xm (44 + 1) (by decide), xm (44 + 2) (by decide), xm (44 + 3) (by decide), xm 48 (by decide), xm 49 (by decide), xm (49 + 1) (by decide), xm 66 (by decide), xm 67 (by decide)]
    exact hL.ks
  · rw [xm 67 (by decide)]; exact hL.kv
  · rw [xm 0 (by decide)]; exact Int.le_trans hL.ct (by omega)
theorem lc_program {M : Mm} {n c : Nat} (h : SR M n c) (hc : c ≤ 99999) : Cm mX8_program [vR 0] M (fun r M1 => Cs mX9_program [] c r M1) := by
  have hL := h.2.2
  have p0 := h.1.pg0
  have p1 := h.1.pg1
  have hct := hL.ct
  obtain ⟨m, hm⟩ := Int.eq_ofNat_of_zero_le p0
  have h0 := rd0_RI h.1.b4 h.1.rd3
  have hl : ∀ j : Nat, j < m → 1 ≤ M 2 j ∧ M 2 j ≤ 126 := fun j hj => h.1.pgl j (by omega) (by omega)
  refine cm_mono (c_program (m := m) M h.1 hm (by omega)) ?_
  rintro r M1 ⟨k, N, hE, hR, hh⟩
  have hf := rdC_f0 hE.2.1
  rcases hh with ⟨q1, rfl, rfl⟩ | ⟨q1, c', q2, q3, rfl, hC, h39, hF⟩
  · have hK1 := h.2.1.hi (M' := M1) (fun q hq => hf q (Or.inr (by omega)))
    refine ⟨⟨_, rfl⟩, cm_mono (k_program (X := M1) (by omega) h0 hl hE (by rw [hf 54 (by decide), hL.pg]; exact hm) (fun j hj => by rw [hf 55 (by decide)]; exact hL.pl j (by omega))) ?_⟩
    rintro r M2 (⟨g1, rfl, hg⟩ | ⟨g1, -, -⟩)
    · have e : ∀ q, (q ≠ 54 ∧ q ≠ 56) → M2 q = M1 q := fun q hq => hg.2 q hq.1 hq.2
      have ef : ∀ j, (j < 2 ∨ 6 < j) → M2 54 j = M1 54 j := hg.1
      refine ⟨rfl, n, h.ask (h.1.rd hf hR) (fun q hq => hf q (by omega)) ?_ (fun q hq => e q (by omega)) (fun j hj => ef j hj.1) (fun q hq => e q (by omega))⟩
      apply KI.mk
      case pg0 => rw [ef 1 (by decide)]; exact hK1.pg0
      case pg1 => rw [ef 1 (by decide)]; exact hK1.pg1
      case pgl => rw [ef 1 (by decide), e 55 (by decide)]; exact hK1.pgl
      case sz => rw [ef 8 (by decide)]; exact hK1.sz
      case n6 => exact hK1.n6
      case ok => rw [e 57 (by decide)]; exact hK1.ok
      case bd => rw [e 57 (by decide)]; exact hK1.bd
      case ol => rw [ef 11 (by decide)]; exact hK1.ol
      case fr => rw [ef 11 (by decide)]; exact fun a b => (hK1.fr a b).fr (e 57 (by decide)) (ef 17 (by decide)) (e 58 (by decide)) (e 63 (by decide))
      case sg => intro p a; rw [e 59 (by decide)]; exact hK1.sg p a
      case rkb => rw [e 64 (by decide)]; exact hK1.rkb
      case sn0 => rw [ef 20 (by decide)]; exact hK1.sn0
      case sn1 => rw [ef 20 (by decide)]; exact hK1.sn1
      case snb => rw [e 65 (by decide)]; exact hK1.snb
      case pr => rw [ef 9 (by decide)]; exact hK1.pr
      case kp => rw [ef 23 (by decide), ef 9 (by decide)]; exact hK1.kp
    · exact absurd g1 q1
  obtain ⟨a1, a2, a3, a4, a5, a6, a7, a8, a9⟩ := prgM_at (M := N)
  have e1 : ∀ q, (q = 2 ∨ q = 38 ∨ (41 ≤ q ∧ q ≤ 50) ∨ 54 ≤ q) → M1 q = M q := fun q hq => by rw [hF.o (by omega), prgM_o (by omega) (by omega) (by omega) (by omega), hf q (by omega)]
  have er : ∀ q, q ≤ 13 ∨ q = 40 → M1 q = prgM N q := fun q hq => hF.o (by omega)
  refine ⟨⟨_, rfl⟩, cm_mono (k_program (X := M1) (by omega) h0 hl hE (by rw [e1 54 (by decide), hL.pg]; exact hm) (fun j hj => by rw [e1 55 (by decide)]; exact hL.pl j (by omega))) ?_⟩
  rintro r M2 (⟨g1, -, -⟩ | ⟨g1, rfl, Y, hY, hg, hM2⟩)
  · exact absurd q1 g1
  refine ⟨by rw [q2], c', ?_⟩
  rw [hM2]
  have y54 : ∀ j, (j < 2 ∨ 6 < j) → Y 54 j = M 54 j := fun j hj => by rw [hg.1 j hj, e1 54 (by decide)]
  have yo : ∀ q, (q ≠ 54 ∧ q ≠ 56) → Y q = M1 q := fun q hq => hg.2 q hq.1 hq.2
  have x54 : ∀ j, ((j < 2 ∨ 6 < j) ∧ j ≠ 8 ∧ j ≠ 20 ∧ j ≠ 9 ∧ j ≠ 1) → pgK Y 54 j = M 54 j := fun j hj => by unfold pgK; rw [upM_n (Or.inr hj.2.2.2.2), upM_n (Or.inr hj.2.2.2.1), upM_n (Or.inr hj.2.2.1), rwc_ne (by decide), upM_n (Or.inr hj.2.1), y54 j hj.1]
  have x8 : pgK Y 54 8 = N 4 4 := by unfold pgK; rw [upM_n (Or.inr (by decide)), upM_n (Or.inr (by decide)), upM_n (Or.inr (by decide)), rwc_ne (by decide), upM_s]; exact hY.mn
  have x20 : pgK Y 54 20 = 0 := by unfold pgK; rw [upM_n (Or.inr (by decide)), upM_n (Or.inr (by decide)), upM_s]
  have x9 : pgK Y 54 9 = M 54 9 + 1 := by unfold pgK; rw [upM_n (Or.inr (by decide)), upM_s, y54 9 (by decide)]
  have x1 : pgK Y 54 1 = 0 := by unfold pgK; rw [upM_s]
  have xo : ∀ q, (q ≠ 54 ∧ q ≠ 57) → pgK Y q = Y q := fun q hq => by unfold pgK; rw [upM_o hq.1, upM_o hq.1, upM_o hq.1, rwc_ne hq.2, upM_o hq.1]
  have x57 : pgK Y 57 = cpS 24 (Y 56) (Y 57) := by unfold pgK; rw [upM_o (by decide), upM_o (by decide), upM_o (by decide), rwc_at]
  have k24 : ∀ j, 0 ≤ j → j < 24 → cpS 24 (Y 56) (Y 57) j = Y 56 j := fun j j1 j2 => by unfold cpS; rw [if_pos (by omega)]
  have xm : ∀ q, ((q = 2 ∨ q = 38 ∨ (41 ≤ q ∧ q ≤ 50) ∨ 54 ≤ q) ∧ (q ≠ 54 ∧ q ≠ 56 ∧ q ≠ 57)) → pgK Y q = M q := fun q hq => by rw [xo q ⟨hq.2.1, hq.2.2.2⟩, yo q ⟨hq.2.1, hq.2.2.1⟩, e1 q hq.1]
  have xr : ∀ q, q ≤ 13 ∨ q = 40 → pgK Y q = prgM N q := fun q hq => by rw [xo q (by omega), yo q (by omega), er q hq]
  have hc6 := hC.n6
  have n0 : N 0 11 = M 0 11 := by rw [hf 0 (by decide)]
  have s1 : pgK Y 1 1 = 0 := by rw [xr 1 (by decide)]; exact a6
  have s40 : pgK Y 40 2 = 0 := by rw [xr 40 (by decide)]; exact a7
  have s10 : pgK Y 0 10 = 0 := by rw [xr 0 (by decide)]; exact a8
  have s11 : pgK Y 0 11 = M 0 11 + 1 := by rw [xr 0 (by decide), a9, n0]
  have hkp := h.2.1.kp
  have hrd := hL.rd
  refine SR.new (c := c + 1) hC h39 (fun q hq => by rw [xo q (by omega), yo q (by omega)]) (by rw [x8, q2]) ?_ ?_ ?_ ?_ ?_ ?_ ?_ ?_ ?_ ?_ ?_ ?_ ?_
  · intro j hj
    rw [x57, xr 10 (by decide), xr (10 + 1) (by decide), xr (10 + 2) (by decide), xr (10 + 3) (by decide)]
    show _ = prgM N 10 j ∧ _ = prgM N 11 j ∧ _ = prgM N 12 j ∧ _ = nmV (prgM N 10 j) (prgM N 13 j)
    rw [a2, a3, a4, a5, cp6 (by omega) (by omega), cp6 (by omega) (by omega), cp6 (by omega) (by omega), cp6 (by omega) (by omega), k24 _ (by omega) (by omega), k24 _ (by omega) (by omega), k24 _ (by omega) (by omega), k24 _ (by omega) (by omega)]
    exact hY.st j (by rw [q2]; omega)
  · rw [x1, s1]
  · intro j hj; rw [s1] at hj; omega
  · rw [x20, s40]
  · rw [s40]; intro j hj; exact absurd hj (by simp)
  · show ∀ j, 0 ≤ j → j < 6 → _; rw [xm 65 (by decide)]; exact h.2.1.snb
  · intro p a; rw [xm 59 (by decide)]; exact h.2.1.sg p a
  · rw [x9, s11, hrd]
  · rw [x9, x54 23 (by decide), s10]; omega
  · rw [x9, x54 23 (by decide)]; omega
  · rw [s10]; intro y; omega
  · rw [xm 67 (by decide)]; exact hL.kv
  · rw [s11]; omega
