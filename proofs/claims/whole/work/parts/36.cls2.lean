/-! ===== SumBounds: what is kept between calls, and its calls ===== -/
def cBd (M : Mm) (c : Nat) : Prop := ∀ j, 0 ≤ j → j < 6 → (-1000 ≤ M (c + 1) j ∧ M (c + 1) j ≤ 1000) ∧ (-1000 ≤ M (c + 2) j ∧ M (c + 2) j ≤ 1000) ∧ (-1000 ≤ M (c + 3) j ∧ M (c + 3) j ≤ 1000) ∧ (-1000 ≤ M (c + 4) j ∧ M (c + 4) j ≤ 1000)
def CJ (M : Mm) (n : Nat) : Prop := (0 ≤ M 1 1) ∧ (M 1 1 ≤ 36) ∧ (∀ j, 0 ≤ j → j < M 1 1 → 1 ≤ M 2 j ∧ M 2 j ≤ 126) ∧ (M 9 4 = n) ∧ (n ≤ 6) ∧ (prOK (M 10) (M 11) (M 12) (M 13) n) ∧ (cBd M 9) ∧ (cBd M 4) ∧ (cBd M 43) ∧ ((-1000 ≤ M 3 3 ∧ M 3 3 ≤ 1000) ∧ (-1000 ≤ M 3 4 ∧ M 3 4 ≤ 1000) ∧ (-1000 ≤ M 3 5 ∧ M 3 5 ≤ 1000) ∧ (M 3 6 = 0 ∨ M 3 6 = 1)) ∧ (∀ j, 0 ≤ j → j < 15 → -1000 ≤ M 38 j ∧ M 38 j ≤ 1000) ∧ (0 ≤ M 40 2) ∧ (M 40 2 ≤ 6) ∧ (∀ j, 0 ≤ j → j < 6 → (-1000 ≤ M 41 j ∧ M 41 j ≤ 1000) ∧ (-1000 ≤ M 49 j ∧ M 49 j ≤ 1000)) ∧ (∀ j, 0 ≤ j → j < 6 → (0 ≤ M 42 j ∧ M 42 j < 32) ∧ (0 ≤ M 50 j ∧ M 50 j < 32)) ∧ (M 0 10 = 0 ∨ M 0 10 = 1) ∧ (M 0 10 = 1 → ∃ m : Nat, M 43 4 = m ∧ 0 < m ∧ m ≤ 6 ∧ prOK (M 44) (M 45) (M 46) (M 47) m ∧ 0 ≤ M 48 2 ∧ M 48 2 ≤ 6) ∧ (0 ≤ M 0 11 ∧ M 0 11 ≤ 100000) ∧ (M 52 1 = 0 ∨ M 52 1 = 1)
theorem CJ.pg0 {M : Mm} {n : Nat} (h : CJ M n) : 0 ≤ M 1 1 := h.1
theorem CJ.pg1 {M : Mm} {n : Nat} (h : CJ M n) : M 1 1 ≤ 36 := h.2.1
theorem CJ.pgl {M : Mm} {n : Nat} (h : CJ M n) : ∀ j, 0 ≤ j → j < M 1 1 → 1 ≤ M 2 j ∧ M 2 j ≤ 126 := h.2.2.1
theorem CJ.sz {M : Mm} {n : Nat} (h : CJ M n) : M 9 4 = n := h.2.2.2.1
theorem CJ.n6 {M : Mm} {n : Nat} (h : CJ M n) : n ≤ 6 := h.2.2.2.2.1
theorem CJ.ok {M : Mm} {n : Nat} (h : CJ M n) : prOK (M 10) (M 11) (M 12) (M 13) n := h.2.2.2.2.2.1
theorem CJ.b9 {M : Mm} {n : Nat} (h : CJ M n) : cBd M 9 := h.2.2.2.2.2.2.1
theorem CJ.b4 {M : Mm} {n : Nat} (h : CJ M n) : cBd M 4 := h.2.2.2.2.2.2.2.1
theorem CJ.b43 {M : Mm} {n : Nat} (h : CJ M n) : cBd M 43 := h.2.2.2.2.2.2.2.2.1
theorem CJ.rd3 {M : Mm} {n : Nat} (h : CJ M n) : (-1000 ≤ M 3 3 ∧ M 3 3 ≤ 1000) ∧ (-1000 ≤ M 3 4 ∧ M 3 4 ≤ 1000) ∧ (-1000 ≤ M 3 5 ∧ M 3 5 ≤ 1000) ∧ (M 3 6 = 0 ∨ M 3 6 = 1) := h.2.2.2.2.2.2.2.2.2.1
theorem CJ.rkb {M : Mm} {n : Nat} (h : CJ M n) : ∀ j, 0 ≤ j → j < 15 → -1000 ≤ M 38 j ∧ M 38 j ≤ 1000 := h.2.2.2.2.2.2.2.2.2.2.1
theorem CJ.sn0 {M : Mm} {n : Nat} (h : CJ M n) : 0 ≤ M 40 2 := h.2.2.2.2.2.2.2.2.2.2.2.1
theorem CJ.sn1 {M : Mm} {n : Nat} (h : CJ M n) : M 40 2 ≤ 6 := h.2.2.2.2.2.2.2.2.2.2.2.2.1
theorem CJ.snb {M : Mm} {n : Nat} (h : CJ M n) : ∀ j, 0 ≤ j → j < 6 → (-1000 ≤ M 41 j ∧ M 41 j ≤ 1000) ∧ (-1000 ≤ M 49 j ∧ M 49 j ≤ 1000) := h.2.2.2.2.2.2.2.2.2.2.2.2.2.1
theorem CJ.snr {M : Mm} {n : Nat} (h : CJ M n) : ∀ j, 0 ≤ j → j < 6 → (0 ≤ M 42 j ∧ M 42 j < 32) ∧ (0 ≤ M 50 j ∧ M 50 j < 32) := h.2.2.2.2.2.2.2.2.2.2.2.2.2.2.1
theorem CJ.im0 {M : Mm} {n : Nat} (h : CJ M n) : M 0 10 = 0 ∨ M 0 10 = 1 := h.2.2.2.2.2.2.2.2.2.2.2.2.2.2.2.1
theorem CJ.im1 {M : Mm} {n : Nat} (h : CJ M n) : M 0 10 = 1 → ∃ m : Nat, M 43 4 = m ∧ 0 < m ∧ m ≤ 6 ∧ prOK (M 44) (M 45) (M 46) (M 47) m ∧ 0 ≤ M 48 2 ∧ M 48 2 ≤ 6 := h.2.2.2.2.2.2.2.2.2.2.2.2.2.2.2.2.1
theorem CJ.rdg {M : Mm} {n : Nat} (h : CJ M n) : 0 ≤ M 0 11 ∧ M 0 11 ≤ 100000 := h.2.2.2.2.2.2.2.2.2.2.2.2.2.2.2.2.2.1
theorem CJ.sc {M : Mm} {n : Nat} (h : CJ M n) : M 52 1 = 0 ∨ M 52 1 = 1 := h.2.2.2.2.2.2.2.2.2.2.2.2.2.2.2.2.2.2
theorem CJ.mk {M : Mm} {n : Nat} (pg0 : 0 ≤ M 1 1) (pg1 : M 1 1 ≤ 36) (pgl : ∀ j, 0 ≤ j → j < M 1 1 → 1 ≤ M 2 j ∧ M 2 j ≤ 126) (sz : M 9 4 = n) (n6 : n ≤ 6) (ok : prOK (M 10) (M 11) (M 12) (M 13) n) (b9 : cBd M 9) (b4 : cBd M 4) (b43 : cBd M 43) (rd3 : (-1000 ≤ M 3 3 ∧ M 3 3 ≤ 1000) ∧ (-1000 ≤ M 3 4 ∧ M 3 4 ≤ 1000) ∧ (-1000 ≤ M 3 5 ∧ M 3 5 ≤ 1000) ∧ (M 3 6 = 0 ∨ M 3 6 = 1)) (rkb : ∀ j, 0 ≤ j → j < 15 → -1000 ≤ M 38 j ∧ M 38 j ≤ 1000) (sn0 : 0 ≤ M 40 2) (sn1 : M 40 2 ≤ 6) (snb : ∀ j, 0 ≤ j → j < 6 → (-1000 ≤ M 41 j ∧ M 41 j ≤ 1000) ∧ (-1000 ≤ M 49 j ∧ M 49 j ≤ 1000)) (snr : ∀ j, 0 ≤ j → j < 6 → (0 ≤ M 42 j ∧ M 42 j < 32) ∧ (0 ≤ M 50 j ∧ M 50 j < 32)) (im0 : M 0 10 = 0 ∨ M 0 10 = 1) (im1 : M 0 10 = 1 → ∃ m : Nat, M 43 4 = m ∧ 0 < m ∧ m ≤ 6 ∧ prOK (M 44) (M 45) (M 46) (M 47) m ∧ 0 ≤ M 48 2 ∧ M 48 2 ≤ 6) (rdg : 0 ≤ M 0 11 ∧ M 0 11 ≤ 100000) (sc : M 52 1 = 0 ∨ M 52 1 = 1) : CJ M n := ⟨pg0, pg1, pgl, sz, n6, ok, b9, b4, b43, rd3, rkb, sn0, sn1, snb, snr, im0, im1, rdg, sc⟩
def CI (M : Mm) (n : Nat) : Prop := (CJ M n) ∧ (0 < n → RunOK M n) ∧ (n = 0 → M 14 5 = 0) ∧ (0 < n → ∀ j : Nat, j ≤ n → M 16 j = -1 ∨ M 16 j = cntF M (aC j)) ∧ (∀ j, 0 ≤ j → j < 5 → 0 ≤ M 39 j ∧ M 39 j ≤ 3)
theorem CI.j {M : Mm} {n : Nat} (h : CI M n) : CJ M n := h.1
theorem CI.rn {M : Mm} {n : Nat} (h : CI M n) : 0 < n → RunOK M n := h.2.1
theorem CI.r0 {M : Mm} {n : Nat} (h : CI M n) : n = 0 → M 14 5 = 0 := h.2.2.1
theorem CI.ct {M : Mm} {n : Nat} (h : CI M n) : 0 < n → ∀ j : Nat, j ≤ n → M 16 j = -1 ∨ M 16 j = cntF M (aC j) := h.2.2.2.1
theorem CI.rk {M : Mm} {n : Nat} (h : CI M n) : ∀ j, 0 ≤ j → j < 5 → 0 ≤ M 39 j ∧ M 39 j ≤ 3 := h.2.2.2.2
theorem CI.pg0 {M : Mm} {n : Nat} (h : CI M n) : 0 ≤ M 1 1 := h.1.pg0
theorem CI.pg1 {M : Mm} {n : Nat} (h : CI M n) : M 1 1 ≤ 36 := h.1.pg1
theorem CI.pgl {M : Mm} {n : Nat} (h : CI M n) : ∀ j, 0 ≤ j → j < M 1 1 → 1 ≤ M 2 j ∧ M 2 j ≤ 126 := h.1.pgl
theorem CI.sz {M : Mm} {n : Nat} (h : CI M n) : M 9 4 = n := h.1.sz
theorem CI.n6 {M : Mm} {n : Nat} (h : CI M n) : n ≤ 6 := h.1.n6
theorem CI.ok {M : Mm} {n : Nat} (h : CI M n) : prOK (M 10) (M 11) (M 12) (M 13) n := h.1.ok
theorem CI.b9 {M : Mm} {n : Nat} (h : CI M n) : cBd M 9 := h.1.b9
theorem CI.b4 {M : Mm} {n : Nat} (h : CI M n) : cBd M 4 := h.1.b4
theorem CI.b43 {M : Mm} {n : Nat} (h : CI M n) : cBd M 43 := h.1.b43
theorem CI.rd3 {M : Mm} {n : Nat} (h : CI M n) : (-1000 ≤ M 3 3 ∧ M 3 3 ≤ 1000) ∧ (-1000 ≤ M 3 4 ∧ M 3 4 ≤ 1000) ∧ (-1000 ≤ M 3 5 ∧ M 3 5 ≤ 1000) ∧ (M 3 6 = 0 ∨ M 3 6 = 1) := h.1.rd3
theorem CI.rkb {M : Mm} {n : Nat} (h : CI M n) : ∀ j, 0 ≤ j → j < 15 → -1000 ≤ M 38 j ∧ M 38 j ≤ 1000 := h.1.rkb
theorem CI.sn0 {M : Mm} {n : Nat} (h : CI M n) : 0 ≤ M 40 2 := h.1.sn0
theorem CI.sn1 {M : Mm} {n : Nat} (h : CI M n) : M 40 2 ≤ 6 := h.1.sn1
theorem CI.snb {M : Mm} {n : Nat} (h : CI M n) : ∀ j, 0 ≤ j → j < 6 → (-1000 ≤ M 41 j ∧ M 41 j ≤ 1000) ∧ (-1000 ≤ M 49 j ∧ M 49 j ≤ 1000) := h.1.snb
theorem CI.snr {M : Mm} {n : Nat} (h : CI M n) : ∀ j, 0 ≤ j → j < 6 → (0 ≤ M 42 j ∧ M 42 j < 32) ∧ (0 ≤ M 50 j ∧ M 50 j < 32) := h.1.snr
theorem CI.im0 {M : Mm} {n : Nat} (h : CI M n) : M 0 10 = 0 ∨ M 0 10 = 1 := h.1.im0
theorem CI.im1 {M : Mm} {n : Nat} (h : CI M n) : M 0 10 = 1 → ∃ m : Nat, M 43 4 = m ∧ 0 < m ∧ m ≤ 6 ∧ prOK (M 44) (M 45) (M 46) (M 47) m ∧ 0 ≤ M 48 2 ∧ M 48 2 ≤ 6 := h.1.im1
theorem CI.rdg {M : Mm} {n : Nat} (h : CI M n) : 0 ≤ M 0 11 ∧ M 0 11 ≤ 100000 := h.1.rdg
theorem CI.sc {M : Mm} {n : Nat} (h : CI M n) : M 52 1 = 0 ∨ M 52 1 = 1 := h.1.sc
theorem CI.mk {M : Mm} {n : Nat} (j : CJ M n) (rn : 0 < n → RunOK M n) (r0 : n = 0 → M 14 5 = 0) (ct : 0 < n → ∀ j : Nat, j ≤ n → M 16 j = -1 ∨ M 16 j = cntF M (aC j)) (rk : ∀ j, 0 ≤ j → j < 5 → 0 ≤ M 39 j ∧ M 39 j ≤ 3) : CI M n := ⟨j, rn, r0, ct, rk⟩
theorem cntF_bd {M : Mm} {c : Nat} {S : PS} (h : Rp M c S) : 0 ≤ cntF M c ∧ cntF M c ≤ 1445000 := by
  unfold cntF
  split
  · rename_i h0
    have := cpO_bd (bdd_mono (h.bd h0) (by omega)) 17 (by omega)
    omega
  · omega
theorem c_as {n : Nat} {x y : Int} (hx : inR x) (hy : inR y) (M : Mm) (hC : CI M n) : Cm mX8_as [vR 0, vI x, vI y] M (fun r M' => r = some (vI (if x < 0 ∨ (n : Int) ≤ x then -101 else if y < 0 ∨ 5 ≤ y then -102 else if y = 0 ∨ M 10 x = y ∨ (y = 1 ∧ M 10 x = 3) then x else -1)) ∧ M' = M) := by
  have hs := hC.sz
  have h6 := hC.n6
  refine cm_of (by decide +kernel) (fun _ => trivial) (Nat.le_of_ble_eq_true rfl) ?_
  first | refine ev_aload_n dX8_as_0 rfl ?_ | refine ev_aloadX_n dX8_as_0 rfl ?_
  refine ev_iload_n dX8_as_1 rfl ?_
  refine ev_callv (ci := 8) (c_isStep hx M (by omega)) dX8_as_2 tX8_isStep.1 kX8_106 tX8_isStep.2.1 tX8_isStep.2.2.1 rfl (by first | rfl | assumption) tX8_isStep.2.2.2 ⟨⟨Nat.le_of_ble_eq_true rfl, Nat.le_of_ble_eq_true rfl⟩, Nat.le_of_ble_eq_true rfl, Nat.le_of_ble_eq_true rfl⟩ rfl (Nat.le_of_ble_eq_true rfl) ?_
  rintro r K' M' P' ⟨rfl, rfl, ⟨v2, rfl, hw2, hv2⟩, hM'⟩
  rw [hM']
  clear hM' M'
  refine ev_if_ne (tgt := 11) dX8_as_5 (by decide) (by omega) (fun hb5 => ?_) (fun hb5 => ?_)
  · have g2 := hv2.mp (by omega)
    refine ev_iload_n dX8_as_11 rfl ?_
    refine ev_calls (c_isKind hy M) dX8_as_12 tX8_isKind.1 kX8_146 tX8_isKind.2.1 tX8_isKind.2.2 ⟨⟨Nat.le_of_ble_eq_true rfl, Nat.le_of_ble_eq_true rfl⟩, Nat.le_of_ble_eq_true rfl, Nat.le_of_ble_eq_true rfl⟩ rfl (Nat.le_of_ble_eq_true rfl) ?_
    rintro r K' M' P' ⟨rfl, rfl, ⟨v12, rfl, hw12, hv12⟩, hM'⟩
    rw [hM']
    clear hM' M'
    refine ev_if_ne (tgt := 21) dX8_as_15 (by decide) (by omega) (fun hb15 => ?_) (fun hb15 => ?_)
    · have g12 := hv12.mp (by omega)
      have hb := hC.b9 x (by omega) (by omega)
      simp only [Nat.reduceAdd] at hb
      first | refine ev_aload_n dX8_as_21 rfl ?_ | refine ev_aloadX_n dX8_as_21 rfl ?_
      refine ev_getR dX8_as_22 fX8_26 rfl (by first | rfl | assumption) (by first | rfl | assumption) ?_
      refine ev_getR dX8_as_25 fX8_110 rfl (by first | rfl | assumption) (by first | rfl | assumption) ?_
      refine ev_iload_n dX8_as_28 rfl ?_
      refine ev_iaload dX8_as_29 (by first | rfl | assumption) (by omega) (by omega) (by decide) ?_
      refine ev_iload_n dX8_as_30 rfl ?_
      refine ev_calls (c_isSuch (by omega) hy M) dX8_as_31 tX8_isSuch.1 kX8_149 tX8_isSuch.2.1 tX8_isSuch.2.2 ⟨⟨Nat.le_of_ble_eq_true rfl, Nat.le_of_ble_eq_true rfl⟩, Nat.le_of_ble_eq_true rfl, Nat.le_of_ble_eq_true rfl⟩ rfl (Nat.le_of_ble_eq_true rfl) ?_
      rintro r K' M' P' ⟨rfl, rfl, ⟨v31, rfl, hw31, hv31⟩, hM'⟩
      rw [hM']
      clear hM' M'
      refine ev_if_eq (tgt := 41) dX8_as_34 (by decide) (by omega) (fun hb34 => ?_) (fun hb34 => ?_)
      · have g31 := (not_congr hv31).mp (by omega)
        refine ev_iconst dX8_as_41 ?_
        exact ev_ireturn dX8_as_42 ⟨_, rfl, rfl⟩ (rz ⟨by (repeat' split) <;> first | rfl | omega, rfl⟩)
      · have g31 := hv31.mp (by omega)
        refine ev_iload_n dX8_as_37 rfl ?_
        refine ev_goto (tgt := 42) dX8_as_38 (by decide) ?_
        exact ev_ireturn dX8_as_42 ⟨_, rfl, rfl⟩ (rz ⟨by (repeat' split) <;> first | rfl | omega, rfl⟩)
    · have g12 := (not_congr hv12).mp (by omega)
      refine ev_bipush dX8_as_18 ?_
      exact ev_ireturn dX8_as_20 ⟨_, rfl, rfl⟩ (rz ⟨by (repeat' split) <;> first | rfl | omega, rfl⟩)
  · have g2 := (not_congr hv2).mp (by omega)
    refine ev_bipush dX8_as_8 ?_
    exact ev_ireturn dX8_as_10 ⟨_, rfl, rfl⟩ (rz ⟨by (repeat' split) <;> first | rfl | omega, rfl⟩)
def bndV (M : Mm) (n : Nat) (x a b : Int) : Int := if ¬ (0 < n ∧ 0 ≤ x ∧ x ≤ n) then -101 else if ¬ (lit a ∧ lit b) then -102 else if M (aC x.toNat) 1 = 1 then -1 else M (aC x.toNat + 1) (a * 6 + b) + 100
theorem c_bound {n : Nat} {x a b : Int} (hx : inR x) (ha : inR a) (hb : inR b) (M : Mm) (hC : CI M n) : Cm mX8_bound [vR 0, vI x, vI a, vI b] M (fun r M' => r = some (vI (bndV M n x a b)) ∧ M' = M) := by
  have hs := hC.sz
  have h6 := hC.n6
  unfold bndV
  refine cm_of (by decide +kernel) (fun _ => trivial) (Nat.le_of_ble_eq_true rfl) ?_
  first | refine ev_aload_n dX8_bound_0 rfl ?_ | refine ev_aloadX_n dX8_bound_0 rfl ?_
  refine ev_iload_n dX8_bound_1 rfl ?_
  refine ev_callv (ci := 8) (c_hasShape hx M (by omega)) dX8_bound_2 tX8_hasShape.1 kX8_153 tX8_hasShape.2.1 tX8_hasShape.2.2.1 rfl (by first | rfl | assumption) tX8_hasShape.2.2.2 ⟨⟨Nat.le_of_ble_eq_true rfl, Nat.le_of_ble_eq_true rfl⟩, Nat.le_of_ble_eq_true rfl, Nat.le_of_ble_eq_true rfl⟩ rfl (Nat.le_of_ble_eq_true rfl) ?_
  rintro r K' M' P' ⟨rfl, rfl, ⟨v2, rfl, hw2, hv2⟩, hM'⟩
  rw [hM']
  clear hM' M'
  refine ev_if_ne (tgt := 11) dX8_bound_5 (by decide) (by omega) (fun hb5 => ?_) (fun hb5 => ?_)
  · have g2 := hv2.mp (by omega)
    refine ev_iload_n dX8_bound_11 rfl ?_
    refine ev_calls (c_isSigned ha M) dX8_bound_12 tX8_isSigned.1 kX8_156 tX8_isSigned.2.1 tX8_isSigned.2.2 ⟨⟨Nat.le_of_ble_eq_true rfl, Nat.le_of_ble_eq_true rfl⟩, Nat.le_of_ble_eq_true rfl, Nat.le_of_ble_eq_true rfl⟩ rfl (Nat.le_of_ble_eq_true rfl) ?_
    rintro r K' M' P' ⟨rfl, rfl, ⟨v12, rfl, hw12, hv12⟩, hM'⟩
    rw [hM']
    clear hM' M'
    refine ev_if_eq (tgt := 25) dX8_bound_15 (by decide) (by omega) (fun hb15 => ?_) (fun hb15 => ?_)
    · have g12 := (not_congr hv12).mp (by omega)
      refine ev_bipush dX8_bound_25 ?_
      exact ev_ireturn dX8_bound_27 ⟨_, rfl, rfl⟩ (rz ⟨by (repeat' split) <;> first | rfl | omega, rfl⟩)
    · have g12 := hv12.mp (by omega)
      refine ev_iload_n dX8_bound_18 rfl ?_
      refine ev_calls (c_isSigned hb M) dX8_bound_19 tX8_isSigned.1 kX8_156 tX8_isSigned.2.1 tX8_isSigned.2.2 ⟨⟨Nat.le_of_ble_eq_true rfl, Nat.le_of_ble_eq_true rfl⟩, Nat.le_of_ble_eq_true rfl, Nat.le_of_ble_eq_true rfl⟩ rfl (Nat.le_of_ble_eq_true rfl) ?_
      rintro r K' M' P' ⟨rfl, rfl, ⟨v19, rfl, hw19, hv19⟩, hM'⟩
      rw [hM']
      clear hM' M'
      refine ev_if_ne (tgt := 28) dX8_bound_22 (by decide) (by omega) (fun hb22 => ?_) (fun hb22 => ?_)
      · have g19 := hv19.mp (by omega)
        obtain ⟨k, rfl⟩ := Int.eq_ofNat_of_zero_le g2.2.1
        obtain ⟨A, q, -, -, -, hA⟩ := hC.rn (by omega)
        have hR := hA k (by omega)
        have he := hR.e01
        have pk := pp_aC (k := k) (by omega)
        have sk := sh_aC (k := k) (by omega)
        have kk := sk.1
        simp only [Int.toNat_natCast]
        first | refine ev_aload_n dX8_bound_28 rfl ?_ | refine ev_aloadX_n dX8_bound_28 rfl ?_
        refine ev_getR dX8_bound_29 fX8_33 rfl (by first | rfl | assumption) (by first | rfl | assumption) ?_
        refine ev_getR dX8_bound_32 fX8_159 rfl (by first | rfl | assumption) (by first | rfl | assumption) ?_
        refine ev_iload_n dX8_bound_35 rfl ?_
        refine ev_aaload dX8_bound_36 (by first | rfl | assumption) (by omega) (by omega) (by decide) (by first | rfl | assumption) ?_
        refine ev_astore dX8_bound_37 (by decide) ?_
        first | refine ev_aload dX8_bound_39 rfl ?_ | refine ev_aloadX dX8_bound_39 rfl ?_
        refine ev_gI 1 dX8_bound_41 fX8_163 rfl (by first | rfl | assumption) rfl ?_
        refine ev_if_eq (tgt := 51) dX8_bound_44 (by decide) (by omega) (fun hb44 => ?_) (fun hb44 => ?_)
        · first | refine ev_aload dX8_bound_51 rfl ?_ | refine ev_aloadX dX8_bound_51 rfl ?_
          refine ev_iload_n dX8_bound_53 rfl ?_
          refine ev_iload_n dX8_bound_54 rfl ?_
          refine ev_callv (ci := 6) (c_boundOf sk g12.1 g12.2 g19.1 g19.2 M) dX8_bound_55 tX6_boundOf.1 kX8_166 tX6_boundOf.2.1 tX6_boundOf.2.2.1 rfl (by first | rfl | assumption) tX6_boundOf.2.2.2 ⟨⟨Nat.le_of_ble_eq_true rfl, Nat.le_of_ble_eq_true rfl⟩, Nat.le_of_ble_eq_true rfl, Nat.le_of_ble_eq_true rfl⟩ rfl (Nat.le_of_ble_eq_true rfl) ?_
          rintro r K' M' P' ⟨rfl, rfl, rfl, hM'⟩
          rw [hM']
          clear hM' M'
          refine ev_bipush dX8_bound_58 ?_
          refine ev_iadd dX8_bound_60 ?_
          exact ev_ireturn dX8_bound_61 ⟨_, rfl, rfl⟩ (rz ⟨by (repeat' split) <;> first | rfl | omega, rfl⟩)
        · refine ev_iconst dX8_bound_47 ?_
          refine ev_goto (tgt := 61) dX8_bound_48 (by decide) ?_
          exact ev_ireturn dX8_bound_61 ⟨_, rfl, rfl⟩ (rz ⟨by (repeat' split) <;> first | rfl | omega, rfl⟩)
      · have g19 := (not_congr hv19).mp (by omega)
        refine ev_bipush dX8_bound_25 ?_
        exact ev_ireturn dX8_bound_27 ⟨_, rfl, rfl⟩ (rz ⟨by (repeat' split) <;> first | rfl | omega, rfl⟩)
  · have g2 := (not_congr hv2).mp (by omega)
    refine ev_bipush dX8_bound_8 ?_
    exact ev_ireturn dX8_bound_10 ⟨_, rfl, rfl⟩ (rz ⟨by (repeat' split) <;> first | rfl | omega, rfl⟩)
/-- how many points lie ahead of a step, as counted -/
theorem c_ptsA {n : Nat} {k : Nat} (hn : 0 < n) (hk : k ≤ n) (M : Mm) (hC : CI M n) : Cm mX4_pointsAhead [vR 14, vI (k : Int)] M (fun r M' => r = some (vI (cntF M (aC k))) ∧ M' = rwc M 16 (up1 (M 16) k (cntF M (aC k)))) := by
  have h6 := hC.n6
  obtain ⟨A, q, -, -, -, hA⟩ := hC.rn hn
  have hb := cntF_bd (hA k hk)
  have hc := hC.ct hn k hk
  refine cm_mono (c_pointsAhead (by omega) M (hA k hk) (by omega)) ?_
  rintro r M' ⟨h1, h2⟩
  have e : (if M 16 (k : Int) = -1 then cntF M (aC k) else M 16 k) = cntF M (aC k) := by split <;> omega
  rw [e] at h1 h2
  exact ⟨h1, h2⟩
theorem CJ.fr {M M' : Mm} {n : Nat} (hC : CJ M n) (e : ∀ q, q < 54 → q ≠ 14 → q ≠ 16 → q ≠ 39 → ¬ (17 ≤ q ∧ q ≤ 36) → M' q = M q) : CJ M' n := by
  have e0 := e 0 (by decide) (by decide) (by decide) (by decide) (by decide)
  have e1 := e 1 (by decide) (by decide) (by decide) (by decide) (by decide)
  have e2 := e 2 (by decide) (by decide) (by decide) (by decide) (by decide)
  have e3 := e 3 (by decide) (by decide) (by decide) (by decide) (by decide)
  have e9 := e 9 (by decide) (by decide) (by decide) (by decide) (by decide)
  have e10 := e 10 (by decide) (by decide) (by decide) (by decide) (by decide)
  have e11 := e 11 (by decide) (by decide) (by decide) (by decide) (by decide)
  have e12 := e 12 (by decide) (by decide) (by decide) (by decide) (by decide)
  have e13 := e 13 (by decide) (by decide) (by decide) (by decide) (by decide)
  have e38 := e 38 (by decide) (by decide) (by decide) (by decide) (by decide)
  have e40 := e 40 (by decide) (by decide) (by decide) (by decide) (by decide)
  have e41 := e 41 (by decide) (by decide) (by decide) (by decide) (by decide)
  have e42 := e 42 (by decide) (by decide) (by decide) (by decide) (by decide)
  have e43 := e 43 (by decide) (by decide) (by decide) (by decide) (by decide)
  have e44 := e 44 (by decide) (by decide) (by decide) (by decide) (by decide)
  have e45 := e 45 (by decide) (by decide) (by decide) (by decide) (by decide)
  have e46 := e 46 (by decide) (by decide) (by decide) (by decide) (by decide)
  have e47 := e 47 (by decide) (by decide) (by decide) (by decide) (by decide)
  have e48 := e 48 (by decide) (by decide) (by decide) (by decide) (by decide)
  have e49 := e 49 (by decide) (by decide) (by decide) (by decide) (by decide)
  have e50 := e 50 (by decide) (by decide) (by decide) (by decide) (by decide)
  have e52 := e 52 (by decide) (by decide) (by decide) (by decide) (by decide)
  apply CJ.mk
  case b9 => intro j; rw [e _ (by decide) (by decide) (by decide) (by decide) (by decide), e _ (by decide) (by decide) (by decide) (by decide) (by decide), e _ (by decide) (by decide) (by decide) (by decide) (by decide), e _ (by decide) (by decide) (by decide) (by decide) (by decide)]; exact hC.b9 j
  case b4 => intro j; rw [e _ (by decide) (by decide) (by decide) (by decide) (by decide), e _ (by decide) (by decide) (by decide) (by decide) (by decide), e _ (by decide) (by decide) (by decide) (by decide) (by decide), e _ (by decide) (by decide) (by decide) (by decide) (by decide)]; exact hC.b4 j
  case b43 => intro j; rw [e _ (by decide) (by decide) (by decide) (by decide) (by decide), e _ (by decide) (by decide) (by decide) (by decide) (by decide), e _ (by decide) (by decide) (by decide) (by decide) (by decide), e _ (by decide) (by decide) (by decide) (by decide) (by decide)]; exact hC.b43 j
  case im1 => rw [e0, e43, e44, e45, e46, e47, e48]; exact hC.im1
  case pg0 => rw [e1]; exact hC.pg0
  case pg1 => rw [e1]; exact hC.pg1
  case sz => rw [e9]; exact hC.sz
  case n6 => exact hC.n6
  case ok => rw [e10, e11, e12, e13]; exact hC.ok
  case rd3 => rw [e3]; exact hC.rd3
  case sn0 => rw [e40]; exact hC.sn0
  case sn1 => rw [e40]; exact hC.sn1
  case im0 => rw [e0]; exact hC.im0
  case rdg => rw [e0]; exact hC.rdg
  case sc => rw [e52]; exact hC.sc
  case snb => intro j; rw [e41, e49]; exact hC.snb j
  case snr => intro j; rw [e42, e50]; exact hC.snr j
  case rkb => intro j; rw [e38]; exact hC.rkb j
  case pgl => intro j; rw [e1, e2]; exact hC.pgl j
theorem CI.fr {M M' : Mm} {n : Nat} (hC : CI M n) (e : ∀ q, q < 54 → q ≠ 16 → M' q = M q) (hct : 0 < n → ∀ j : Nat, j ≤ n → M' 16 j = -1 ∨ M' 16 j = cntF M (aC j)) : CI M' n := by
  have h6 := hC.n6
  have ec : ∀ j, j ≤ n → cntF M' (aC j) = cntF M (aC j) := fun j hj => by unfold cntF; rw [e (aC j) (by unfold aC; omega) (by unfold aC; omega), e (aC j + 1) (by unfold aC; omega) (by unfold aC; omega)]
  apply CI.mk
  case j => exact hC.j.fr (fun q h _ h2 _ _ => e q h h2)
  case ct =>
    intro hn j hj
    rw [ec j hj]
    exact hct hn j hj
  case rn =>
    intro hn
    obtain ⟨A, q, h1, h2, h3, h4⟩ := hC.rn hn
    refine ⟨A, q, by rw [e 10 (by decide) (by decide), e 11 (by decide) (by decide), e 12 (by decide) (by decide), e 13 (by decide) (by decide)]; exact h1, by rw [e 14 (by decide) (by decide)]; exact h2, h3, fun q hq => Rp_cg (h4 q hq) (by rw [e (aC q) (by unfold aC; omega) (by unfold aC; omega)]) (fun j _ _ => by rw [e (aC q + 1) (by unfold aC; omega) (by unfold aC; omega)])⟩
  case r0 => rw [e 14 (by decide) (by decide)]; exact hC.r0
  case rk => intro j; rw [e 39 (by decide) (by decide)]; exact hC.rk j
/-- the run anew -/
theorem c_runJ {M : Mm} {n : Nat} (hn : 0 < n) (hJ : CJ M n) : Cm mX8_runAgain [vR 0] M (fun r M' => r = none ∧ CI M' n ∧ (∀ j, 0 ≤ j → j < 5 → M' 39 j = 0) ∧ FrA M M') := by
  have h6 := hJ.n6
  refine cm_mono (c_runAgain hJ.n6 M hJ.sz hJ.ok) ?_
  rintro r M' ⟨h1, h2, h3, h4, h5⟩
  refine ⟨h1, ?_, h4, h5⟩
  apply CI.mk
  case j => exact hJ.fr (fun q _ a b c d => h5.2 q a b c d)
  case ct => exact fun _ j hj => Or.inl (h3 j (by omega) (by omega))
  case rn => exact fun _ => h2
  case r0 => exact fun h => absurd h (by omega)
  case rk => exact fun j a b => by rw [h4 j a b]; omega
theorem CI.pt {M : Mm} {n k : Nat} (hC : CI M n) : CI (rwc M 16 (up1 (M 16) k (cntF M (aC k)))) n := by
  refine hC.fr (fun q _ h => rwc_ne h) ?_
  intro hn j hj
  rw [rwc_at]
  by_cases h : (j : Int) = k
  · have : j = k := by omega
    subst this
    rw [up1_s]
    exact Or.inr rfl
  · rw [up1_n h]
    exact hC.ct hn j hj
theorem c_points {n : Nat} {x : Int} (hx : inR x) (M : Mm) (hC : CI M n) : Cm mX8_points [vR 0, vI x] M (fun r M' => (¬ (0 < n ∧ 0 ≤ x ∧ x ≤ n) ∧ r = some (vI (-101)) ∧ M' = M) ∨ ∃ k : Nat, x = k ∧ 0 < n ∧ k ≤ n ∧ r = some (vI (cntF M (aC k))) ∧ M' = rwc M 16 (up1 (M 16) k (cntF M (aC k)))) := by
  have hs := hC.sz
  have h6 := hC.n6
  refine cm_of (by decide +kernel) (fun _ => trivial) (Nat.le_of_ble_eq_true rfl) ?_
  first | refine ev_aload_n dX8_points_0 rfl ?_ | refine ev_aloadX_n dX8_points_0 rfl ?_
  refine ev_iload_n dX8_points_1 rfl ?_
  refine ev_callv (ci := 8) (c_hasShape hx M (by omega)) dX8_points_2 tX8_hasShape.1 kX8_153 tX8_hasShape.2.1 tX8_hasShape.2.2.1 rfl (by first | rfl | assumption) tX8_hasShape.2.2.2 ⟨⟨Nat.le_of_ble_eq_true rfl, Nat.le_of_ble_eq_true rfl⟩, Nat.le_of_ble_eq_true rfl, Nat.le_of_ble_eq_true rfl⟩ rfl (Nat.le_of_ble_eq_true rfl) ?_
  rintro r K' M' P' ⟨rfl, rfl, ⟨v2, rfl, hw2, hv2⟩, hM'⟩
  rw [hM']
  clear hM' M'
  refine ev_if_ne (tgt := 11) dX8_points_5 (by decide) (by omega) (fun hb5 => ?_) (fun hb5 => ?_)
  · have g2 := hv2.mp (by omega)
    obtain ⟨k, rfl⟩ := Int.eq_ofNat_of_zero_le g2.2.1
    first | refine ev_aload_n dX8_points_11 rfl ?_ | refine ev_aloadX_n dX8_points_11 rfl ?_
    refine ev_getR dX8_points_12 fX8_33 rfl (by first | rfl | assumption) (by first | rfl | assumption) ?_
    refine ev_iload_n dX8_points_15 rfl ?_
    refine ev_callv (ci := 4) (c_ptsA (n := n) (by omega) (by omega) M hC) dX8_points_16 tX4_pointsAhead.1 kX8_170 tX4_pointsAhead.2.1 tX4_pointsAhead.2.2.1 rfl (by first | rfl | assumption) tX4_pointsAhead.2.2.2 ⟨⟨Nat.le_of_ble_eq_true rfl, Nat.le_of_ble_eq_true rfl⟩, Nat.le_of_ble_eq_true rfl, Nat.le_of_ble_eq_true rfl⟩ rfl (Nat.le_of_ble_eq_true rfl) ?_
    rintro r K' M' P' ⟨rfl, rfl, rfl, hM'⟩
    rw [hM']
    clear hM' M'
    exact ev_ireturn dX8_points_19 ⟨_, rfl, rfl⟩ (rz (Or.inr ⟨k, rfl, by omega, by omega, rfl, rfl⟩))
  · have g2 := (not_congr hv2).mp (by omega)
    refine ev_bipush dX8_points_8 ?_
    exact ev_ireturn dX8_points_10 ⟨_, rfl, rfl⟩ (rz (Or.inl ⟨by omega, rfl, rfl⟩))
theorem c_containsR {c : Nat} {S : PS} (hs : isSh c) {x0 x1 x2 : Int} (h0 : -8 ≤ x0) (h1 : x0 ≤ 8) (h2 : -8 ≤ x1) (h3 : x1 ≤ 8) (h4 : -8 ≤ x2) (h5 : x2 ≤ 8) (M : Mm) (hR : Rp M c S) : Cm mX6_contains [vR c, vI x0, vI x1, vI x2] M (fun r M' => yn (hasP M c x0 x1 x2) r ∧ M' = M) := by
  rcases hR.e01 with he | he
  · exact c_contains hs h0 h1 h2 h3 h4 h5 M hR.e01 (bdd_mono (hR.bd he) (by omega))
  · obtain ⟨hs1, hs2, hs3⟩ := id hs
    refine cm_of (by decide +kernel) (fun _ => trivial) (Nat.le_of_ble_eq_true rfl) ?_
    first | refine ev_aload_n dX6_contains_0 rfl ?_ | refine ev_aloadX_n dX6_contains_0 rfl ?_
    refine ev_gI 1 dX6_contains_1 fX6_15 rfl (by first | rfl | assumption) rfl ?_
    refine ev_if_ne (tgt := 43) dX6_contains_4 (by decide) (by omega) (fun q1 => ?_) (fun q1 => ?_)
    · refine ev_iconst dX6_contains_43 ?_
      exact ev_ireturn dX6_contains_44 (okR_z rfl (by first | exact Or.inl rfl | exact Or.inr rfl | assumption)) (rz ⟨yn_0 (fun q => by have := q.1; omega), rfl⟩)
    · omega
theorem c_has {n : Nat} {x a b c : Int} (hx : inR x) (ha : inR a) (hb : inR b) (hc : inR c) (M : Mm) (hC : CI M n) : Cm mX8_has [vR 0, vI x, vI a, vI b, vI c] M (fun r M' => M' = M ∧ ((¬ (0 < n ∧ 0 ≤ x ∧ x ≤ n) ∧ r = some (vI (-101))) ∨ ((0 < n ∧ 0 ≤ x ∧ x ≤ n) ∧ ¬ ((-8 ≤ a ∧ a ≤ 8) ∧ (-8 ≤ b ∧ b ≤ 8) ∧ (-8 ≤ c ∧ c ≤ 8)) ∧ r = some (vI (-102))) ∨ ∃ k : Nat, x = k ∧ 0 < n ∧ k ≤ n ∧ ((-8 ≤ a ∧ a ≤ 8) ∧ (-8 ≤ b ∧ b ≤ 8) ∧ (-8 ≤ c ∧ c ≤ 8)) ∧ yn (hasP M (aC k) a b c) r)) := by
  have hs := hC.sz
  have h6 := hC.n6
  refine cm_of (by decide +kernel) (fun _ => trivial) (Nat.le_of_ble_eq_true rfl) ?_
  first | refine ev_aload_n dX8_has_0 rfl ?_ | refine ev_aloadX_n dX8_has_0 rfl ?_
  refine ev_iload_n dX8_has_1 rfl ?_
  refine ev_callv (ci := 8) (c_hasShape hx M (by omega)) dX8_has_2 tX8_hasShape.1 kX8_153 tX8_hasShape.2.1 tX8_hasShape.2.2.1 rfl (by first | rfl | assumption) tX8_hasShape.2.2.2 ⟨⟨Nat.le_of_ble_eq_true rfl, Nat.le_of_ble_eq_true rfl⟩, Nat.le_of_ble_eq_true rfl, Nat.le_of_ble_eq_true rfl⟩ rfl (Nat.le_of_ble_eq_true rfl) ?_
  rintro r K' M' P' ⟨rfl, rfl, ⟨v2, rfl, hw2, hv2⟩, hM'⟩
  rw [hM']
  clear hM' M'
  refine ev_if_ne (tgt := 11) dX8_has_5 (by decide) (by omega) (fun hb5 => ?_) (fun hb5 => ?_)
  · have g2 := hv2.mp (by omega)
    refine ev_iload_n dX8_has_11 rfl ?_
    refine ev_calls (c_isNumber ha M) dX8_has_12 tX8_isNumber.1 kX8_173 tX8_isNumber.2.1 tX8_isNumber.2.2 ⟨⟨Nat.le_of_ble_eq_true rfl, Nat.le_of_ble_eq_true rfl⟩, Nat.le_of_ble_eq_true rfl, Nat.le_of_ble_eq_true rfl⟩ rfl (Nat.le_of_ble_eq_true rfl) ?_
    rintro r K' M' P' ⟨rfl, rfl, ⟨v12, rfl, hw12, hv12⟩, hM'⟩
    rw [hM']
    clear hM' M'
    refine ev_if_eq (tgt := 33) dX8_has_15 (by decide) (by omega) (fun hb15 => ?_) (fun hb15 => ?_)
    · have g12 := (not_congr hv12).mp (by omega)
      refine ev_bipush dX8_has_33 ?_
      exact ev_ireturn dX8_has_35 ⟨_, rfl, rfl⟩ (rz ⟨rfl, Or.inr (Or.inl ⟨by omega, by omega, rfl⟩)⟩)
    · have g12 := hv12.mp (by omega)
      refine ev_iload_n dX8_has_18 rfl ?_
      refine ev_calls (c_isNumber hb M) dX8_has_19 tX8_isNumber.1 kX8_173 tX8_isNumber.2.1 tX8_isNumber.2.2 ⟨⟨Nat.le_of_ble_eq_true rfl, Nat.le_of_ble_eq_true rfl⟩, Nat.le_of_ble_eq_true rfl, Nat.le_of_ble_eq_true rfl⟩ rfl (Nat.le_of_ble_eq_true rfl) ?_
      rintro r K' M' P' ⟨rfl, rfl, ⟨v19, rfl, hw19, hv19⟩, hM'⟩
      rw [hM']
      clear hM' M'
      refine ev_if_eq (tgt := 33) dX8_has_22 (by decide) (by omega) (fun hb22 => ?_) (fun hb22 => ?_)
      · have g19 := (not_congr hv19).mp (by omega)
        refine ev_bipush dX8_has_33 ?_
        exact ev_ireturn dX8_has_35 ⟨_, rfl, rfl⟩ (rz ⟨rfl, Or.inr (Or.inl ⟨by omega, by omega, rfl⟩)⟩)
      · have g19 := hv19.mp (by omega)
        refine ev_iload dX8_has_25 rfl ?_
        refine ev_calls (c_isNumber hc M) dX8_has_27 tX8_isNumber.1 kX8_173 tX8_isNumber.2.1 tX8_isNumber.2.2 ⟨⟨Nat.le_of_ble_eq_true rfl, Nat.le_of_ble_eq_true rfl⟩, Nat.le_of_ble_eq_true rfl, Nat.le_of_ble_eq_true rfl⟩ rfl (Nat.le_of_ble_eq_true rfl) ?_
        rintro r K' M' P' ⟨rfl, rfl, ⟨v27, rfl, hw27, hv27⟩, hM'⟩
        rw [hM']
        clear hM' M'
        refine ev_if_ne (tgt := 36) dX8_has_30 (by decide) (by omega) (fun hb30 => ?_) (fun hb30 => ?_)
        · have g27 := hv27.mp (by omega)
          obtain ⟨k, rfl⟩ := Int.eq_ofNat_of_zero_le g2.2.1
          obtain ⟨A, q, -, -, -, hA⟩ := hC.rn (by omega)
          have hR := hA k (by omega)
          have pk := pp_aC (k := k) (by omega)
          have sk := sh_aC (k := k) (by omega)
          have kk := sk.1
          first | refine ev_aload_n dX8_has_36 rfl ?_ | refine ev_aloadX_n dX8_has_36 rfl ?_
          refine ev_getR dX8_has_37 fX8_33 rfl (by first | rfl | assumption) (by first | rfl | assumption) ?_
          refine ev_getR dX8_has_40 fX8_159 rfl (by first | rfl | assumption) (by first | rfl | assumption) ?_
          refine ev_iload_n dX8_has_43 rfl ?_
          refine ev_aaload dX8_has_44 (by first | rfl | assumption) (by omega) (by omega) (by decide) (by first | rfl | assumption) ?_
          refine ev_iload_n dX8_has_45 rfl ?_
          refine ev_iload_n dX8_has_46 rfl ?_
          refine ev_iload dX8_has_47 rfl ?_
          refine ev_callv (ci := 6) (c_containsR sk g12.1 g12.2 g19.1 g19.2 g27.1 g27.2 M hR) dX8_has_49 tX6_contains.1 kX8_176 tX6_contains.2.1 tX6_contains.2.2.1 rfl (by first | rfl | assumption) tX6_contains.2.2.2 ⟨⟨Nat.le_of_ble_eq_true rfl, Nat.le_of_ble_eq_true rfl⟩, Nat.le_of_ble_eq_true rfl, Nat.le_of_ble_eq_true rfl⟩ rfl (Nat.le_of_ble_eq_true rfl) ?_
          rintro r K' M' P' ⟨rfl, rfl, ⟨v49, rfl, hw49, hv49⟩, hM'⟩
          rw [hM']
          clear hM' M'
          refine ev_calls (c_asInt hw49 M) dX8_has_52 tX8_asInt.1 kX8_129 tX8_asInt.2.1 tX8_asInt.2.2 ⟨⟨Nat.le_of_ble_eq_true rfl, Nat.le_of_ble_eq_true rfl⟩, Nat.le_of_ble_eq_true rfl, Nat.le_of_ble_eq_true rfl⟩ rfl (Nat.le_of_ble_eq_true rfl) ?_
          rintro r K' M' P' ⟨rfl, rfl, rfl, hM'⟩
          rw [hM']
          clear hM' M'
          exact ev_ireturn dX8_has_55 ⟨_, rfl, rfl⟩ (rz ⟨rfl, Or.inr (Or.inr ⟨k, rfl, by omega, by omega, ⟨g12, g19, g27⟩, ⟨_, rfl, hw49, hv49⟩⟩)⟩)
        · have g27 := (not_congr hv27).mp (by omega)
          refine ev_bipush dX8_has_33 ?_
          exact ev_ireturn dX8_has_35 ⟨_, rfl, rfl⟩ (rz ⟨rfl, Or.inr (Or.inl ⟨by omega, by omega, rfl⟩)⟩)
  · have g2 := (not_congr hv2).mp (by omega)
    refine ev_bipush dX8_has_8 ?_
    exact ev_ireturn dX8_has_10 ⟨_, rfl, rfl⟩ (rz ⟨rfl, Or.inl ⟨by omega, rfl⟩⟩)
